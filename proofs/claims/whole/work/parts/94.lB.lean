/-! the law's switch, case by case -/
section LAW
variable {p : Program} {l : Launch} {e : Env} {s : State} {m : MethodId} {below : List Frame} {meth : Method} {c : Code} {D : va_G} {cI cZ cC cH : ClassId} {b L : Nat} {xs : Nat → Int32} {Q : State → Prop} {o o7 : Nat} {w w7 : va_W} {H : Heap} {locs : List Loc} {ls : Array Slot} {i : Int32}
/-- the law's context -/
abbrev LC (p : Program) (s : State) (m : MethodId) (c : Code) (D : va_G) (cI cZ cC cH : ClassId) (b : Nat) : Prop := Cx D (TY cI cZ cC cH) p s m #[Value.ref b] c code 4 wsL_law RL (fun q : Nat => s.heap.size ≤ q)
theorem he6 {cI cZ cC cH : ClassId} {o o7 : Nat} {w w7 x : va_W} (h : RelW cI cZ cC cH o o7 w w7) : ∃ vs, (w ++ x)[0]? = some (o, .inr (6, vs)) := by
  obtain ⟨⟨vs, h1⟩, -, h3⟩ := h.head
  exact ⟨vs, by rw [List.getElem?_append_left (by omega)]; exact h1⟩
theorem he7 {cI cZ cC cH : ClassId} {o o7 : Nat} {w w7 x : va_W} (h : RelW cI cZ cC cH o o7 w w7) (hx : x.length = 55) : ∃ vs, (x ++ w7)[55]? = some (o7, .inr (7, vs)) := by
  obtain ⟨-, ⟨vs, h1⟩, -⟩ := h.head
  exact ⟨vs, by rw [List.getElem?_append_right (by omega), hx]; exact h1⟩
theorem vin {L : Nat} {i : Int32} {k : Int32} {n : Nat} (h0 : 0 ≤ i.toInt) (h1 : i.toInt + 6 ≤ L) (hL : L ≤ 3072) (hk : k.toInt = (n : Int)) (hn : n ≤ 5) : vp_in (i + k) L := vp_in_iff.mpr (by rw [ti_addc i k n hk (by omega) (by omega)]; omega)
set_option maxHeartbeats 4000000 in
theorem L_write (C : LC p s m c D cI cZ cC cH b) (hX : va_X b L xs s s.heap) (hbl : b < s.heap.size) (hL : L ≤ 3072) (i0 : 0 ≤ i.toInt) (i1 : i.toInt + 6 ≤ L) (hR : RelW cI cZ cC cH o o7 w w7) (hh : HS D (fun q : Nat => s.heap.size ≤ q) s.heap (w ++ w7) H locs) (hl : lv_has ls 4 [(0, .ref b), (1, .ref o), (2, .ref o7), (3, .int i)]) (K : ∀ (w1 w17 : va_W) (H1 : Heap) (locs1 : List Loc), RelW cI cZ cC cH o o7 w1 w17 → HS D (fun q : Nat => s.heap.size ≤ q) s.heap (w1 ++ w17) H1 locs1 → W p l e room_1 s m #[Value.ref b] below meth c H1 locs1 66 11288 Q (F0 m 823 ls [])) : W p l e room_1 s m #[Value.ref b] below meth c H locs 66 11288 Q (F0 m 136 ls []) := by
  have hx := C.1
  have hb := C.2.1
  have hbA : ¬ (fun q : Nat => s.heap.size ≤ q) b := Nat.not_le.mpr hbl
  obtain ⟨r, w1, w17, M1, M2, hR1, e1, e2⟩ := P_write (l := l) (D := D) hR (((xs (i + 1).toNatClampNeg).toInt64 <<< ((32 : Int32).toInt64 &&& 63)) ||| ((xs (i + 2).toNatClampNeg).toInt64 &&& 4294967295)) (xs (i + 3).toNatClampNeg)
  obtain ⟨v6, q6⟩ := he6 (x := w7) hR
  obtain ⟨v7, q7⟩ := he7 (x := w1) hR hR1.head.2.2
  refine lv_aload_n hx hb dL_law_136 rfl (lv_at hl 1 rfl) ?_
  refine lv_aload_n hx hb dL_law_137 rfl (lv_at hl 0 rfl) ?_
  refine lv_iload_n hx hb dL_law_138 rfl (lv_at hl 3 rfl) ?_
  refine lv_iconst (v := 1) hx hb dL_law_139 (by decide) ?_
  refine lv_iadd hx hb dL_law_140 ?_
  refine va_sld hx hb hX hbl hbA hh.2.2 (vin (n := 1) i0 i1 hL rfl (by decide)) dL_law_141 ?_
  refine lv_i2l hx hb dL_law_142 rfl ?_
  refine lv_bipush (v := 32) hx hb dL_law_143 (by decide) ?_
  refine lv_lshl hx hb dL_law_145 rfl ?_
  refine lv_aload_n hx hb dL_law_146 rfl (lv_at hl 0 rfl) ?_
  refine lv_iload_n hx hb dL_law_147 rfl (lv_at hl 3 rfl) ?_
  refine lv_iconst (v := 2) hx hb dL_law_148 (by decide) ?_
  refine lv_iadd hx hb dL_law_149 ?_
  refine va_sld hx hb hX hbl hbA hh.2.2 (vin (n := 2) i0 i1 hL rfl (by decide)) dL_law_150 ?_
  refine lv_i2l hx hb dL_law_151 rfl ?_
  refine lv_ldc2 (v := 4294967295) hx hb C.2.2.2.1 (C.2.2.2.2.1 _ (List.mem_of_getElem? (i := 6) rfl)) dL_law_152 ?_
  refine lv_land hx hb dL_law_155 ?_
  refine lv_lor hx hb dL_law_156 ?_
  refine lv_aload_n hx hb dL_law_157 rfl (lv_at hl 0 rfl) ?_
  refine lv_iload_n hx hb dL_law_158 rfl (lv_at hl 3 rfl) ?_
  refine lv_iconst (v := 3) hx hb dL_law_159 (by decide) ?_
  refine lv_iadd hx hb dL_law_160 ?_
  refine va_sld hx hb hX hbl hbA hh.2.2 (vin (n := 3) i0 i1 hL rfl (by decide)) dL_law_161 ?_
  refine g_callV (fr2 := 12) (lo2 := 448) (As := [.long (((xs (i + 1).toNatClampNeg).toInt64 <<< ((32 : Int32).toInt64 &&& 63)) ||| ((xs (i + 2).toNatClampNeg).toInt64 &&& 4294967295)), .int (xs (i + 3).toNatClampNeg)]) (rest := []) C rfl ⟨Nat.le_of_ble_eq_true rfl, Nat.le_of_ble_eq_true rfl⟩ hh hl M1 (JN.left e1) 2 gL_law_X6_write rfl (by decide +kernel) ⟨Nat.le_of_ble_eq_true rfl, Nat.le_of_ble_eq_true rfl⟩ 0 6 rfl rfl q6 rfl rfl (Nat.le_of_ble_eq_true rfl) dL_law_162 (fun H1 locs1 hh1 => ?_)
  clear hh
  have hh := hh1
  refine W.eq (g2 := F0 m 165 ls [.int r]) rfl ?_
  refine lv_aload_n hx hb dL_law_165 rfl (lv_at hl 2 rfl) ?_
  refine lv_aload_n hx hb dL_law_166 rfl (lv_at hl 0 rfl) ?_
  refine lv_iload_n hx hb dL_law_167 rfl (lv_at hl 3 rfl) ?_
  refine lv_iconst (v := 1) hx hb dL_law_168 (by decide) ?_
  refine lv_iadd hx hb dL_law_169 ?_
  refine va_sld hx hb hX hbl hbA hh.2.2 (vin (n := 1) i0 i1 hL rfl (by decide)) dL_law_170 ?_
  refine lv_i2l hx hb dL_law_171 rfl ?_
  refine lv_bipush (v := 32) hx hb dL_law_172 (by decide) ?_
  refine lv_lshl hx hb dL_law_174 rfl ?_
  refine lv_aload_n hx hb dL_law_175 rfl (lv_at hl 0 rfl) ?_
  refine lv_iload_n hx hb dL_law_176 rfl (lv_at hl 3 rfl) ?_
  refine lv_iconst (v := 2) hx hb dL_law_177 (by decide) ?_
  refine lv_iadd hx hb dL_law_178 ?_
  refine va_sld hx hb hX hbl hbA hh.2.2 (vin (n := 2) i0 i1 hL rfl (by decide)) dL_law_179 ?_
  refine lv_i2l hx hb dL_law_180 rfl ?_
  refine lv_ldc2 (v := 4294967295) hx hb C.2.2.2.1 (C.2.2.2.2.1 _ (List.mem_of_getElem? (i := 6) rfl)) dL_law_181 ?_
  refine lv_land hx hb dL_law_184 ?_
  refine lv_lor hx hb dL_law_185 ?_
  refine lv_aload_n hx hb dL_law_186 rfl (lv_at hl 0 rfl) ?_
  refine lv_iload_n hx hb dL_law_187 rfl (lv_at hl 3 rfl) ?_
  refine lv_iconst (v := 3) hx hb dL_law_188 (by decide) ?_
  refine lv_iadd hx hb dL_law_189 ?_
  refine va_sld hx hb hX hbl hbA hh.2.2 (vin (n := 3) i0 i1 hL rfl (by decide)) dL_law_190 ?_
  refine g_callV (fr2 := 12) (lo2 := 448) (As := [.long (((xs (i + 1).toNatClampNeg).toInt64 <<< ((32 : Int32).toInt64 &&& 63)) ||| ((xs (i + 2).toNatClampNeg).toInt64 &&& 4294967295)), .int (xs (i + 3).toNatClampNeg)]) (rest := [.int r]) C rfl ⟨Nat.le_of_ble_eq_true rfl, Nat.le_of_ble_eq_true rfl⟩ hh hl M2 (JN.right e2) 2 gL_law_X7_write rfl (by decide +kernel) ⟨Nat.le_of_ble_eq_true rfl, Nat.le_of_ble_eq_true rfl⟩ 55 7 rfl rfl q7 rfl rfl (Nat.le_of_ble_eq_true rfl) dL_law_191 (fun H2 locs2 hh2 => ?_)
  refine W.eq (g2 := F0 m 194 ls [.int r, .int r]) rfl ?_
  refine lv_icmp_eq (tgt := 823) hx hb dL_law_194 (by decide) (fun _ => K w1 w17 H2 locs2 hR1 hh2) (fun cc => absurd rfl cc)
set_option maxHeartbeats 4000000 in
theorem L_erase (C : LC p s m c D cI cZ cC cH b) (hX : va_X b L xs s s.heap) (hbl : b < s.heap.size) (hL : L ≤ 3072) (i0 : 0 ≤ i.toInt) (i1 : i.toInt + 6 ≤ L) (hR : RelW cI cZ cC cH o o7 w w7) (hh : HS D (fun q : Nat => s.heap.size ≤ q) s.heap (w ++ w7) H locs) (hl : lv_has ls 4 [(0, .ref b), (1, .ref o), (2, .ref o7), (3, .int i)]) (K : ∀ (w1 w17 : va_W) (H1 : Heap) (locs1 : List Loc), RelW cI cZ cC cH o o7 w1 w17 → HS D (fun q : Nat => s.heap.size ≤ q) s.heap (w1 ++ w17) H1 locs1 → W p l e room_1 s m #[Value.ref b] below meth c H1 locs1 66 11288 Q (F0 m 823 ls [])) : W p l e room_1 s m #[Value.ref b] below meth c H locs 66 11288 Q (F0 m 199 ls []) := by
  have hx := C.1
  have hb := C.2.1
  have hbA : ¬ (fun q : Nat => s.heap.size ≤ q) b := Nat.not_le.mpr hbl
  obtain ⟨r, w1, w17, M1, M2, hR1, e1, e2⟩ := P_erase (l := l) (D := D) hR 
  obtain ⟨v6, q6⟩ := he6 (x := w7) hR
  obtain ⟨v7, q7⟩ := he7 (x := w1) hR hR1.head.2.2
  refine lv_aload_n hx hb dL_law_199 rfl (lv_at hl 1 rfl) ?_
  refine g_callV (fr2 := 12) (lo2 := 448) (As := []) (rest := []) C rfl ⟨Nat.le_of_ble_eq_true rfl, Nat.le_of_ble_eq_true rfl⟩ hh hl M1 (JN.left e1) 0 gL_law_X6_erase rfl (by decide +kernel) ⟨Nat.le_of_ble_eq_true rfl, Nat.le_of_ble_eq_true rfl⟩ 0 6 rfl rfl q6 rfl rfl (Nat.le_of_ble_eq_true rfl) dL_law_200 (fun H1 locs1 hh1 => ?_)
  clear hh
  have hh := hh1
  refine W.eq (g2 := F0 m 203 ls [.int r]) rfl ?_
  refine lv_aload_n hx hb dL_law_203 rfl (lv_at hl 2 rfl) ?_
  refine g_callV (fr2 := 12) (lo2 := 448) (As := []) (rest := [.int r]) C rfl ⟨Nat.le_of_ble_eq_true rfl, Nat.le_of_ble_eq_true rfl⟩ hh hl M2 (JN.right e2) 0 gL_law_X7_erase rfl (by decide +kernel) ⟨Nat.le_of_ble_eq_true rfl, Nat.le_of_ble_eq_true rfl⟩ 55 7 rfl rfl q7 rfl rfl (Nat.le_of_ble_eq_true rfl) dL_law_204 (fun H2 locs2 hh2 => ?_)
  refine W.eq (g2 := F0 m 207 ls [.int r, .int r]) rfl ?_
  refine lv_icmp_eq (tgt := 823) hx hb dL_law_207 (by decide) (fun _ => K w1 w17 H2 locs2 hR1 hh2) (fun cc => absurd rfl cc)
set_option maxHeartbeats 4000000 in
theorem L_fault (C : LC p s m c D cI cZ cC cH b) (hX : va_X b L xs s s.heap) (hbl : b < s.heap.size) (hL : L ≤ 3072) (i0 : 0 ≤ i.toInt) (i1 : i.toInt + 6 ≤ L) (hR : RelW cI cZ cC cH o o7 w w7) (hh : HS D (fun q : Nat => s.heap.size ≤ q) s.heap (w ++ w7) H locs) (hl : lv_has ls 4 [(0, .ref b), (1, .ref o), (2, .ref o7), (3, .int i)]) (K : ∀ (w1 w17 : va_W) (H1 : Heap) (locs1 : List Loc), RelW cI cZ cC cH o o7 w1 w17 → HS D (fun q : Nat => s.heap.size ≤ q) s.heap (w1 ++ w17) H1 locs1 → W p l e room_1 s m #[Value.ref b] below meth c H1 locs1 66 11288 Q (F0 m 823 ls [])) : W p l e room_1 s m #[Value.ref b] below meth c H locs 66 11288 Q (F0 m 212 ls []) := by
  have hx := C.1
  have hb := C.2.1
  have hbA : ¬ (fun q : Nat => s.heap.size ≤ q) b := Nat.not_le.mpr hbl
  obtain ⟨r, w1, w17, M1, M2, hR1, e1, e2⟩ := P_fault (l := l) (D := D) hR 
  obtain ⟨v6, q6⟩ := he6 (x := w7) hR
  obtain ⟨v7, q7⟩ := he7 (x := w1) hR hR1.head.2.2
  refine lv_aload_n hx hb dL_law_212 rfl (lv_at hl 1 rfl) ?_
  refine g_callV (fr2 := 12) (lo2 := 448) (As := []) (rest := []) C rfl ⟨Nat.le_of_ble_eq_true rfl, Nat.le_of_ble_eq_true rfl⟩ hh hl M1 (JN.left e1) 0 gL_law_X6_fault rfl (by decide +kernel) ⟨Nat.le_of_ble_eq_true rfl, Nat.le_of_ble_eq_true rfl⟩ 0 6 rfl rfl q6 rfl rfl (Nat.le_of_ble_eq_true rfl) dL_law_213 (fun H1 locs1 hh1 => ?_)
  clear hh
  have hh := hh1
  refine W.eq (g2 := F0 m 216 ls [.int r]) rfl ?_
  refine lv_aload_n hx hb dL_law_216 rfl (lv_at hl 2 rfl) ?_
  refine g_callV (fr2 := 12) (lo2 := 448) (As := []) (rest := [.int r]) C rfl ⟨Nat.le_of_ble_eq_true rfl, Nat.le_of_ble_eq_true rfl⟩ hh hl M2 (JN.right e2) 0 gL_law_X7_fault rfl (by decide +kernel) ⟨Nat.le_of_ble_eq_true rfl, Nat.le_of_ble_eq_true rfl⟩ 55 7 rfl rfl q7 rfl rfl (Nat.le_of_ble_eq_true rfl) dL_law_217 (fun H2 locs2 hh2 => ?_)
  refine W.eq (g2 := F0 m 220 ls [.int r, .int r]) rfl ?_
  refine lv_icmp_eq (tgt := 823) hx hb dL_law_220 (by decide) (fun _ => K w1 w17 H2 locs2 hR1 hh2) (fun cc => absurd rfl cc)
set_option maxHeartbeats 4000000 in
theorem L_house (C : LC p s m c D cI cZ cC cH b) (hX : va_X b L xs s s.heap) (hbl : b < s.heap.size) (hL : L ≤ 3072) (i0 : 0 ≤ i.toInt) (i1 : i.toInt + 6 ≤ L) (hR : RelW cI cZ cC cH o o7 w w7) (hh : HS D (fun q : Nat => s.heap.size ≤ q) s.heap (w ++ w7) H locs) (hl : lv_has ls 4 [(0, .ref b), (1, .ref o), (2, .ref o7), (3, .int i)]) (K : ∀ (w1 w17 : va_W) (H1 : Heap) (locs1 : List Loc), RelW cI cZ cC cH o o7 w1 w17 → HS D (fun q : Nat => s.heap.size ≤ q) s.heap (w1 ++ w17) H1 locs1 → W p l e room_1 s m #[Value.ref b] below meth c H1 locs1 66 11288 Q (F0 m 823 ls [])) : W p l e room_1 s m #[Value.ref b] below meth c H locs 66 11288 Q (F0 m 225 ls []) := by
  have hx := C.1
  have hb := C.2.1
  have hbA : ¬ (fun q : Nat => s.heap.size ≤ q) b := Nat.not_le.mpr hbl
  obtain ⟨r, w1, w17, M1, M2, hR1, e1, e2⟩ := P_house (l := l) (D := D) hR 
  obtain ⟨v6, q6⟩ := he6 (x := w7) hR
  obtain ⟨v7, q7⟩ := he7 (x := w1) hR hR1.head.2.2
  refine lv_aload_n hx hb dL_law_225 rfl (lv_at hl 1 rfl) ?_
  refine g_callV (fr2 := 12) (lo2 := 448) (As := []) (rest := []) C rfl ⟨Nat.le_of_ble_eq_true rfl, Nat.le_of_ble_eq_true rfl⟩ hh hl M1 (JN.left e1) 0 gL_law_X6_house rfl (by decide +kernel) ⟨Nat.le_of_ble_eq_true rfl, Nat.le_of_ble_eq_true rfl⟩ 0 6 rfl rfl q6 rfl rfl (Nat.le_of_ble_eq_true rfl) dL_law_226 (fun H1 locs1 hh1 => ?_)
  clear hh
  have hh := hh1
  refine W.eq (g2 := F0 m 229 ls [.int r]) rfl ?_
  refine lv_aload_n hx hb dL_law_229 rfl (lv_at hl 2 rfl) ?_
  refine g_callV (fr2 := 12) (lo2 := 448) (As := []) (rest := [.int r]) C rfl ⟨Nat.le_of_ble_eq_true rfl, Nat.le_of_ble_eq_true rfl⟩ hh hl M2 (JN.right e2) 0 gL_law_X7_house rfl (by decide +kernel) ⟨Nat.le_of_ble_eq_true rfl, Nat.le_of_ble_eq_true rfl⟩ 55 7 rfl rfl q7 rfl rfl (Nat.le_of_ble_eq_true rfl) dL_law_230 (fun H2 locs2 hh2 => ?_)
  refine W.eq (g2 := F0 m 233 ls [.int r, .int r]) rfl ?_
  refine lv_icmp_eq (tgt := 823) hx hb dL_law_233 (by decide) (fun _ => K w1 w17 H2 locs2 hR1 hh2) (fun cc => absurd rfl cc)
set_option maxHeartbeats 4000000 in
theorem L_clock (C : LC p s m c D cI cZ cC cH b) (hX : va_X b L xs s s.heap) (hbl : b < s.heap.size) (hL : L ≤ 3072) (i0 : 0 ≤ i.toInt) (i1 : i.toInt + 6 ≤ L) (hR : RelW cI cZ cC cH o o7 w w7) (hh : HS D (fun q : Nat => s.heap.size ≤ q) s.heap (w ++ w7) H locs) (hl : lv_has ls 4 [(0, .ref b), (1, .ref o), (2, .ref o7), (3, .int i)]) (K : ∀ (w1 w17 : va_W) (H1 : Heap) (locs1 : List Loc), RelW cI cZ cC cH o o7 w1 w17 → HS D (fun q : Nat => s.heap.size ≤ q) s.heap (w1 ++ w17) H1 locs1 → W p l e room_1 s m #[Value.ref b] below meth c H1 locs1 66 11288 Q (F0 m 823 ls [])) : W p l e room_1 s m #[Value.ref b] below meth c H locs 66 11288 Q (F0 m 238 ls []) := by
  have hx := C.1
  have hb := C.2.1
  have hbA : ¬ (fun q : Nat => s.heap.size ≤ q) b := Nat.not_le.mpr hbl
  obtain ⟨r, w1, w17, M1, M2, hR1, e1, e2⟩ := P_clock (l := l) (D := D) hR (xs (i + 1).toNatClampNeg) (xs (i + 2).toNatClampNeg)
  obtain ⟨v6, q6⟩ := he6 (x := w7) hR
  obtain ⟨v7, q7⟩ := he7 (x := w1) hR hR1.head.2.2
  refine lv_aload_n hx hb dL_law_238 rfl (lv_at hl 1 rfl) ?_
  refine lv_aload_n hx hb dL_law_239 rfl (lv_at hl 0 rfl) ?_
  refine lv_iload_n hx hb dL_law_240 rfl (lv_at hl 3 rfl) ?_
  refine lv_iconst (v := 1) hx hb dL_law_241 (by decide) ?_
  refine lv_iadd hx hb dL_law_242 ?_
  refine va_sld hx hb hX hbl hbA hh.2.2 (vin (n := 1) i0 i1 hL rfl (by decide)) dL_law_243 ?_
  refine lv_aload_n hx hb dL_law_244 rfl (lv_at hl 0 rfl) ?_
  refine lv_iload_n hx hb dL_law_245 rfl (lv_at hl 3 rfl) ?_
  refine lv_iconst (v := 2) hx hb dL_law_246 (by decide) ?_
  refine lv_iadd hx hb dL_law_247 ?_
  refine va_sld hx hb hX hbl hbA hh.2.2 (vin (n := 2) i0 i1 hL rfl (by decide)) dL_law_248 ?_
  refine g_callV (fr2 := 12) (lo2 := 448) (As := [.int (xs (i + 1).toNatClampNeg), .int (xs (i + 2).toNatClampNeg)]) (rest := []) C rfl ⟨Nat.le_of_ble_eq_true rfl, Nat.le_of_ble_eq_true rfl⟩ hh hl M1 (JN.left e1) 2 gL_law_X6_clock rfl (by decide +kernel) ⟨Nat.le_of_ble_eq_true rfl, Nat.le_of_ble_eq_true rfl⟩ 0 6 rfl rfl q6 rfl rfl (Nat.le_of_ble_eq_true rfl) dL_law_249 (fun H1 locs1 hh1 => ?_)
  clear hh
  have hh := hh1
  refine W.eq (g2 := F0 m 252 ls [.int r]) rfl ?_
  refine lv_aload_n hx hb dL_law_252 rfl (lv_at hl 2 rfl) ?_
  refine lv_aload_n hx hb dL_law_253 rfl (lv_at hl 0 rfl) ?_
  refine lv_iload_n hx hb dL_law_254 rfl (lv_at hl 3 rfl) ?_
  refine lv_iconst (v := 1) hx hb dL_law_255 (by decide) ?_
  refine lv_iadd hx hb dL_law_256 ?_
  refine va_sld hx hb hX hbl hbA hh.2.2 (vin (n := 1) i0 i1 hL rfl (by decide)) dL_law_257 ?_
  refine lv_aload_n hx hb dL_law_258 rfl (lv_at hl 0 rfl) ?_
  refine lv_iload_n hx hb dL_law_259 rfl (lv_at hl 3 rfl) ?_
  refine lv_iconst (v := 2) hx hb dL_law_260 (by decide) ?_
  refine lv_iadd hx hb dL_law_261 ?_
  refine va_sld hx hb hX hbl hbA hh.2.2 (vin (n := 2) i0 i1 hL rfl (by decide)) dL_law_262 ?_
  refine g_callV (fr2 := 12) (lo2 := 448) (As := [.int (xs (i + 1).toNatClampNeg), .int (xs (i + 2).toNatClampNeg)]) (rest := [.int r]) C rfl ⟨Nat.le_of_ble_eq_true rfl, Nat.le_of_ble_eq_true rfl⟩ hh hl M2 (JN.right e2) 2 gL_law_X7_clock rfl (by decide +kernel) ⟨Nat.le_of_ble_eq_true rfl, Nat.le_of_ble_eq_true rfl⟩ 55 7 rfl rfl q7 rfl rfl (Nat.le_of_ble_eq_true rfl) dL_law_263 (fun H2 locs2 hh2 => ?_)
  refine W.eq (g2 := F0 m 266 ls [.int r, .int r]) rfl ?_
  refine lv_icmp_eq (tgt := 823) hx hb dL_law_266 (by decide) (fun _ => K w1 w17 H2 locs2 hR1 hh2) (fun cc => absurd rfl cc)
set_option maxHeartbeats 4000000 in
theorem L_shows (C : LC p s m c D cI cZ cC cH b) (hX : va_X b L xs s s.heap) (hbl : b < s.heap.size) (hL : L ≤ 3072) (i0 : 0 ≤ i.toInt) (i1 : i.toInt + 6 ≤ L) (hR : RelW cI cZ cC cH o o7 w w7) (hh : HS D (fun q : Nat => s.heap.size ≤ q) s.heap (w ++ w7) H locs) (hl : lv_has ls 4 [(0, .ref b), (1, .ref o), (2, .ref o7), (3, .int i)]) (K : ∀ (w1 w17 : va_W) (H1 : Heap) (locs1 : List Loc), RelW cI cZ cC cH o o7 w1 w17 → HS D (fun q : Nat => s.heap.size ≤ q) s.heap (w1 ++ w17) H1 locs1 → W p l e room_1 s m #[Value.ref b] below meth c H1 locs1 66 11288 Q (F0 m 823 ls [])) : W p l e room_1 s m #[Value.ref b] below meth c H locs 66 11288 Q (F0 m 271 ls []) := by
  have hx := C.1
  have hb := C.2.1
  have hbA : ¬ (fun q : Nat => s.heap.size ≤ q) b := Nat.not_le.mpr hbl
  obtain ⟨r, w1, w17, M1, M2, hR1, e1, e2⟩ := P_shows (l := l) (D := D) hR (xs (i + 1).toNatClampNeg) (xs (i + 2).toNatClampNeg) (xs (i + 3).toNatClampNeg)
  obtain ⟨v6, q6⟩ := he6 (x := w7) hR
  obtain ⟨v7, q7⟩ := he7 (x := w1) hR hR1.head.2.2
  refine lv_aload_n hx hb dL_law_271 rfl (lv_at hl 1 rfl) ?_
  refine lv_aload_n hx hb dL_law_272 rfl (lv_at hl 0 rfl) ?_
  refine lv_iload_n hx hb dL_law_273 rfl (lv_at hl 3 rfl) ?_
  refine lv_iconst (v := 1) hx hb dL_law_274 (by decide) ?_
  refine lv_iadd hx hb dL_law_275 ?_
  refine va_sld hx hb hX hbl hbA hh.2.2 (vin (n := 1) i0 i1 hL rfl (by decide)) dL_law_276 ?_
  refine lv_aload_n hx hb dL_law_277 rfl (lv_at hl 0 rfl) ?_
  refine lv_iload_n hx hb dL_law_278 rfl (lv_at hl 3 rfl) ?_
  refine lv_iconst (v := 2) hx hb dL_law_279 (by decide) ?_
  refine lv_iadd hx hb dL_law_280 ?_
  refine va_sld hx hb hX hbl hbA hh.2.2 (vin (n := 2) i0 i1 hL rfl (by decide)) dL_law_281 ?_
  refine lv_aload_n hx hb dL_law_282 rfl (lv_at hl 0 rfl) ?_
  refine lv_iload_n hx hb dL_law_283 rfl (lv_at hl 3 rfl) ?_
  refine lv_iconst (v := 3) hx hb dL_law_284 (by decide) ?_
  refine lv_iadd hx hb dL_law_285 ?_
  refine va_sld hx hb hX hbl hbA hh.2.2 (vin (n := 3) i0 i1 hL rfl (by decide)) dL_law_286 ?_
  refine g_callV (fr2 := 12) (lo2 := 448) (As := [.int (xs (i + 1).toNatClampNeg), .int (xs (i + 2).toNatClampNeg), .int (xs (i + 3).toNatClampNeg)]) (rest := []) C rfl ⟨Nat.le_of_ble_eq_true rfl, Nat.le_of_ble_eq_true rfl⟩ hh hl M1 (JN.left e1) 3 gL_law_X6_shows rfl (by decide +kernel) ⟨Nat.le_of_ble_eq_true rfl, Nat.le_of_ble_eq_true rfl⟩ 0 6 rfl rfl q6 rfl rfl (Nat.le_of_ble_eq_true rfl) dL_law_287 (fun H1 locs1 hh1 => ?_)
  clear hh
  have hh := hh1
  refine W.eq (g2 := F0 m 290 ls [.int r]) rfl ?_
  refine lv_aload_n hx hb dL_law_290 rfl (lv_at hl 2 rfl) ?_
  refine lv_aload_n hx hb dL_law_291 rfl (lv_at hl 0 rfl) ?_
  refine lv_iload_n hx hb dL_law_292 rfl (lv_at hl 3 rfl) ?_
  refine lv_iconst (v := 1) hx hb dL_law_293 (by decide) ?_
  refine lv_iadd hx hb dL_law_294 ?_
  refine va_sld hx hb hX hbl hbA hh.2.2 (vin (n := 1) i0 i1 hL rfl (by decide)) dL_law_295 ?_
  refine lv_aload_n hx hb dL_law_296 rfl (lv_at hl 0 rfl) ?_
  refine lv_iload_n hx hb dL_law_297 rfl (lv_at hl 3 rfl) ?_
  refine lv_iconst (v := 2) hx hb dL_law_298 (by decide) ?_
  refine lv_iadd hx hb dL_law_299 ?_
  refine va_sld hx hb hX hbl hbA hh.2.2 (vin (n := 2) i0 i1 hL rfl (by decide)) dL_law_300 ?_
  refine lv_aload_n hx hb dL_law_301 rfl (lv_at hl 0 rfl) ?_
  refine lv_iload_n hx hb dL_law_302 rfl (lv_at hl 3 rfl) ?_
  refine lv_iconst (v := 3) hx hb dL_law_303 (by decide) ?_
  refine lv_iadd hx hb dL_law_304 ?_
  refine va_sld hx hb hX hbl hbA hh.2.2 (vin (n := 3) i0 i1 hL rfl (by decide)) dL_law_305 ?_
  refine g_callV (fr2 := 12) (lo2 := 448) (As := [.int (xs (i + 1).toNatClampNeg), .int (xs (i + 2).toNatClampNeg), .int (xs (i + 3).toNatClampNeg)]) (rest := [.int r]) C rfl ⟨Nat.le_of_ble_eq_true rfl, Nat.le_of_ble_eq_true rfl⟩ hh hl M2 (JN.right e2) 3 gL_law_X7_shows rfl (by decide +kernel) ⟨Nat.le_of_ble_eq_true rfl, Nat.le_of_ble_eq_true rfl⟩ 55 7 rfl rfl q7 rfl rfl (Nat.le_of_ble_eq_true rfl) dL_law_306 (fun H2 locs2 hh2 => ?_)
  refine W.eq (g2 := F0 m 309 ls [.int r, .int r]) rfl ?_
  refine lv_icmp_eq (tgt := 823) hx hb dL_law_309 (by decide) (fun _ => K w1 w17 H2 locs2 hR1 hh2) (fun cc => absurd rfl cc)
set_option maxHeartbeats 4000000 in
theorem L_can (C : LC p s m c D cI cZ cC cH b) (hX : va_X b L xs s s.heap) (hbl : b < s.heap.size) (hL : L ≤ 3072) (i0 : 0 ≤ i.toInt) (i1 : i.toInt + 6 ≤ L) (hR : RelW cI cZ cC cH o o7 w w7) (hh : HS D (fun q : Nat => s.heap.size ≤ q) s.heap (w ++ w7) H locs) (hl : lv_has ls 4 [(0, .ref b), (1, .ref o), (2, .ref o7), (3, .int i)]) (K : ∀ (w1 w17 : va_W) (H1 : Heap) (locs1 : List Loc), RelW cI cZ cC cH o o7 w1 w17 → HS D (fun q : Nat => s.heap.size ≤ q) s.heap (w1 ++ w17) H1 locs1 → W p l e room_1 s m #[Value.ref b] below meth c H1 locs1 66 11288 Q (F0 m 823 ls [])) : W p l e room_1 s m #[Value.ref b] below meth c H locs 66 11288 Q (F0 m 314 ls []) := by
  have hx := C.1
  have hb := C.2.1
  have hbA : ¬ (fun q : Nat => s.heap.size ≤ q) b := Nat.not_le.mpr hbl
  obtain ⟨r, w1, w17, M1, M2, hR1, e1, e2⟩ := P_can (l := l) (D := D) hR (xs (i + 1).toNatClampNeg) (xs (i + 2).toNatClampNeg) (xs (i + 3).toNatClampNeg)
  obtain ⟨v6, q6⟩ := he6 (x := w7) hR
  obtain ⟨v7, q7⟩ := he7 (x := w1) hR hR1.head.2.2
  refine lv_aload_n hx hb dL_law_314 rfl (lv_at hl 1 rfl) ?_
  refine lv_aload_n hx hb dL_law_315 rfl (lv_at hl 0 rfl) ?_
  refine lv_iload_n hx hb dL_law_316 rfl (lv_at hl 3 rfl) ?_
  refine lv_iconst (v := 1) hx hb dL_law_317 (by decide) ?_
  refine lv_iadd hx hb dL_law_318 ?_
  refine va_sld hx hb hX hbl hbA hh.2.2 (vin (n := 1) i0 i1 hL rfl (by decide)) dL_law_319 ?_
  refine lv_aload_n hx hb dL_law_320 rfl (lv_at hl 0 rfl) ?_
  refine lv_iload_n hx hb dL_law_321 rfl (lv_at hl 3 rfl) ?_
  refine lv_iconst (v := 2) hx hb dL_law_322 (by decide) ?_
  refine lv_iadd hx hb dL_law_323 ?_
  refine va_sld hx hb hX hbl hbA hh.2.2 (vin (n := 2) i0 i1 hL rfl (by decide)) dL_law_324 ?_
  refine lv_aload_n hx hb dL_law_325 rfl (lv_at hl 0 rfl) ?_
  refine lv_iload_n hx hb dL_law_326 rfl (lv_at hl 3 rfl) ?_
  refine lv_iconst (v := 3) hx hb dL_law_327 (by decide) ?_
  refine lv_iadd hx hb dL_law_328 ?_
  refine va_sld hx hb hX hbl hbA hh.2.2 (vin (n := 3) i0 i1 hL rfl (by decide)) dL_law_329 ?_
  refine g_callV (fr2 := 12) (lo2 := 448) (As := [.int (xs (i + 1).toNatClampNeg), .int (xs (i + 2).toNatClampNeg), .int (xs (i + 3).toNatClampNeg)]) (rest := []) C rfl ⟨Nat.le_of_ble_eq_true rfl, Nat.le_of_ble_eq_true rfl⟩ hh hl M1 (JN.left e1) 3 gL_law_X6_can rfl (by decide +kernel) ⟨Nat.le_of_ble_eq_true rfl, Nat.le_of_ble_eq_true rfl⟩ 0 6 rfl rfl q6 rfl rfl (Nat.le_of_ble_eq_true rfl) dL_law_330 (fun H1 locs1 hh1 => ?_)
  clear hh
  have hh := hh1
  refine W.eq (g2 := F0 m 333 ls [.int r]) rfl ?_
  refine lv_aload_n hx hb dL_law_333 rfl (lv_at hl 2 rfl) ?_
  refine lv_aload_n hx hb dL_law_334 rfl (lv_at hl 0 rfl) ?_
  refine lv_iload_n hx hb dL_law_335 rfl (lv_at hl 3 rfl) ?_
  refine lv_iconst (v := 1) hx hb dL_law_336 (by decide) ?_
  refine lv_iadd hx hb dL_law_337 ?_
  refine va_sld hx hb hX hbl hbA hh.2.2 (vin (n := 1) i0 i1 hL rfl (by decide)) dL_law_338 ?_
  refine lv_aload_n hx hb dL_law_339 rfl (lv_at hl 0 rfl) ?_
  refine lv_iload_n hx hb dL_law_340 rfl (lv_at hl 3 rfl) ?_
  refine lv_iconst (v := 2) hx hb dL_law_341 (by decide) ?_
  refine lv_iadd hx hb dL_law_342 ?_
  refine va_sld hx hb hX hbl hbA hh.2.2 (vin (n := 2) i0 i1 hL rfl (by decide)) dL_law_343 ?_
  refine lv_aload_n hx hb dL_law_344 rfl (lv_at hl 0 rfl) ?_
  refine lv_iload_n hx hb dL_law_345 rfl (lv_at hl 3 rfl) ?_
  refine lv_iconst (v := 3) hx hb dL_law_346 (by decide) ?_
  refine lv_iadd hx hb dL_law_347 ?_
  refine va_sld hx hb hX hbl hbA hh.2.2 (vin (n := 3) i0 i1 hL rfl (by decide)) dL_law_348 ?_
  refine g_callV (fr2 := 12) (lo2 := 448) (As := [.int (xs (i + 1).toNatClampNeg), .int (xs (i + 2).toNatClampNeg), .int (xs (i + 3).toNatClampNeg)]) (rest := [.int r]) C rfl ⟨Nat.le_of_ble_eq_true rfl, Nat.le_of_ble_eq_true rfl⟩ hh hl M2 (JN.right e2) 3 gL_law_X7_can rfl (by decide +kernel) ⟨Nat.le_of_ble_eq_true rfl, Nat.le_of_ble_eq_true rfl⟩ 55 7 rfl rfl q7 rfl rfl (Nat.le_of_ble_eq_true rfl) dL_law_349 (fun H2 locs2 hh2 => ?_)
  refine W.eq (g2 := F0 m 352 ls [.int r, .int r]) rfl ?_
  refine lv_icmp_eq (tgt := 823) hx hb dL_law_352 (by decide) (fun _ => K w1 w17 H2 locs2 hR1 hh2) (fun cc => absurd rfl cc)
set_option maxHeartbeats 4000000 in
theorem L_fits (C : LC p s m c D cI cZ cC cH b) (hX : va_X b L xs s s.heap) (hbl : b < s.heap.size) (hL : L ≤ 3072) (i0 : 0 ≤ i.toInt) (i1 : i.toInt + 6 ≤ L) (hR : RelW cI cZ cC cH o o7 w w7) (hh : HS D (fun q : Nat => s.heap.size ≤ q) s.heap (w ++ w7) H locs) (hl : lv_has ls 4 [(0, .ref b), (1, .ref o), (2, .ref o7), (3, .int i)]) (K : ∀ (w1 w17 : va_W) (H1 : Heap) (locs1 : List Loc), RelW cI cZ cC cH o o7 w1 w17 → HS D (fun q : Nat => s.heap.size ≤ q) s.heap (w1 ++ w17) H1 locs1 → W p l e room_1 s m #[Value.ref b] below meth c H1 locs1 66 11288 Q (F0 m 823 ls [])) : W p l e room_1 s m #[Value.ref b] below meth c H locs 66 11288 Q (F0 m 357 ls []) := by
  have hx := C.1
  have hb := C.2.1
  have hbA : ¬ (fun q : Nat => s.heap.size ≤ q) b := Nat.not_le.mpr hbl
  obtain ⟨r, w1, w17, M1, M2, hR1, e1, e2⟩ := P_fits (l := l) (D := D) hR (xs (i + 1).toNatClampNeg)
  obtain ⟨v6, q6⟩ := he6 (x := w7) hR
  obtain ⟨v7, q7⟩ := he7 (x := w1) hR hR1.head.2.2
  refine lv_aload_n hx hb dL_law_357 rfl (lv_at hl 1 rfl) ?_
  refine lv_aload_n hx hb dL_law_358 rfl (lv_at hl 0 rfl) ?_
  refine lv_iload_n hx hb dL_law_359 rfl (lv_at hl 3 rfl) ?_
  refine lv_iconst (v := 1) hx hb dL_law_360 (by decide) ?_
  refine lv_iadd hx hb dL_law_361 ?_
  refine va_sld hx hb hX hbl hbA hh.2.2 (vin (n := 1) i0 i1 hL rfl (by decide)) dL_law_362 ?_
  refine g_callV (fr2 := 12) (lo2 := 448) (As := [.int (xs (i + 1).toNatClampNeg)]) (rest := []) C rfl ⟨Nat.le_of_ble_eq_true rfl, Nat.le_of_ble_eq_true rfl⟩ hh hl M1 (JN.left e1) 1 gL_law_X6_fits rfl (by decide +kernel) ⟨Nat.le_of_ble_eq_true rfl, Nat.le_of_ble_eq_true rfl⟩ 0 6 rfl rfl q6 rfl rfl (Nat.le_of_ble_eq_true rfl) dL_law_363 (fun H1 locs1 hh1 => ?_)
  clear hh
  have hh := hh1
  refine W.eq (g2 := F0 m 366 ls [.int r]) rfl ?_
  refine lv_aload_n hx hb dL_law_366 rfl (lv_at hl 2 rfl) ?_
  refine lv_aload_n hx hb dL_law_367 rfl (lv_at hl 0 rfl) ?_
  refine lv_iload_n hx hb dL_law_368 rfl (lv_at hl 3 rfl) ?_
  refine lv_iconst (v := 1) hx hb dL_law_369 (by decide) ?_
  refine lv_iadd hx hb dL_law_370 ?_
  refine va_sld hx hb hX hbl hbA hh.2.2 (vin (n := 1) i0 i1 hL rfl (by decide)) dL_law_371 ?_
  refine g_callV (fr2 := 12) (lo2 := 448) (As := [.int (xs (i + 1).toNatClampNeg)]) (rest := [.int r]) C rfl ⟨Nat.le_of_ble_eq_true rfl, Nat.le_of_ble_eq_true rfl⟩ hh hl M2 (JN.right e2) 1 gL_law_X7_fits rfl (by decide +kernel) ⟨Nat.le_of_ble_eq_true rfl, Nat.le_of_ble_eq_true rfl⟩ 55 7 rfl rfl q7 rfl rfl (Nat.le_of_ble_eq_true rfl) dL_law_372 (fun H2 locs2 hh2 => ?_)
  refine W.eq (g2 := F0 m 375 ls [.int r, .int r]) rfl ?_
  refine lv_icmp_eq (tgt := 823) hx hb dL_law_375 (by decide) (fun _ => K w1 w17 H2 locs2 hR1 hh2) (fun cc => absurd rfl cc)
set_option maxHeartbeats 4000000 in
theorem L_times (C : LC p s m c D cI cZ cC cH b) (hX : va_X b L xs s s.heap) (hbl : b < s.heap.size) (hL : L ≤ 3072) (i0 : 0 ≤ i.toInt) (i1 : i.toInt + 6 ≤ L) (hR : RelW cI cZ cC cH o o7 w w7) (hh : HS D (fun q : Nat => s.heap.size ≤ q) s.heap (w ++ w7) H locs) (hl : lv_has ls 4 [(0, .ref b), (1, .ref o), (2, .ref o7), (3, .int i)]) (K : ∀ (w1 w17 : va_W) (H1 : Heap) (locs1 : List Loc), RelW cI cZ cC cH o o7 w1 w17 → HS D (fun q : Nat => s.heap.size ≤ q) s.heap (w1 ++ w17) H1 locs1 → W p l e room_1 s m #[Value.ref b] below meth c H1 locs1 66 11288 Q (F0 m 823 ls [])) : W p l e room_1 s m #[Value.ref b] below meth c H locs 66 11288 Q (F0 m 380 ls []) := by
  have hx := C.1
  have hb := C.2.1
  have hbA : ¬ (fun q : Nat => s.heap.size ≤ q) b := Nat.not_le.mpr hbl
  obtain ⟨r, w1, w17, M1, M2, hR1, e1, e2⟩ := P_times (l := l) (D := D) hR (xs (i + 1).toNatClampNeg)
  obtain ⟨v6, q6⟩ := he6 (x := w7) hR
  obtain ⟨v7, q7⟩ := he7 (x := w1) hR hR1.head.2.2
  refine lv_aload_n hx hb dL_law_380 rfl (lv_at hl 1 rfl) ?_
  refine lv_aload_n hx hb dL_law_381 rfl (lv_at hl 0 rfl) ?_
  refine lv_iload_n hx hb dL_law_382 rfl (lv_at hl 3 rfl) ?_
  refine lv_iconst (v := 1) hx hb dL_law_383 (by decide) ?_
  refine lv_iadd hx hb dL_law_384 ?_
  refine va_sld hx hb hX hbl hbA hh.2.2 (vin (n := 1) i0 i1 hL rfl (by decide)) dL_law_385 ?_
  refine g_callV (fr2 := 12) (lo2 := 448) (As := [.int (xs (i + 1).toNatClampNeg)]) (rest := []) C rfl ⟨Nat.le_of_ble_eq_true rfl, Nat.le_of_ble_eq_true rfl⟩ hh hl M1 (JN.left e1) 1 gL_law_X6_times rfl (by decide +kernel) ⟨Nat.le_of_ble_eq_true rfl, Nat.le_of_ble_eq_true rfl⟩ 0 6 rfl rfl q6 rfl rfl (Nat.le_of_ble_eq_true rfl) dL_law_386 (fun H1 locs1 hh1 => ?_)
  clear hh
  have hh := hh1
  refine W.eq (g2 := F0 m 389 ls [.int r]) rfl ?_
  refine lv_aload_n hx hb dL_law_389 rfl (lv_at hl 2 rfl) ?_
  refine lv_aload_n hx hb dL_law_390 rfl (lv_at hl 0 rfl) ?_
  refine lv_iload_n hx hb dL_law_391 rfl (lv_at hl 3 rfl) ?_
  refine lv_iconst (v := 1) hx hb dL_law_392 (by decide) ?_
  refine lv_iadd hx hb dL_law_393 ?_
  refine va_sld hx hb hX hbl hbA hh.2.2 (vin (n := 1) i0 i1 hL rfl (by decide)) dL_law_394 ?_
  refine g_callV (fr2 := 12) (lo2 := 448) (As := [.int (xs (i + 1).toNatClampNeg)]) (rest := [.int r]) C rfl ⟨Nat.le_of_ble_eq_true rfl, Nat.le_of_ble_eq_true rfl⟩ hh hl M2 (JN.right e2) 1 gL_law_X7_times rfl (by decide +kernel) ⟨Nat.le_of_ble_eq_true rfl, Nat.le_of_ble_eq_true rfl⟩ 55 7 rfl rfl q7 rfl rfl (Nat.le_of_ble_eq_true rfl) dL_law_395 (fun H2 locs2 hh2 => ?_)
  refine W.eq (g2 := F0 m 398 ls [.int r, .int r]) rfl ?_
  refine lv_icmp_eq (tgt := 823) hx hb dL_law_398 (by decide) (fun _ => K w1 w17 H2 locs2 hR1 hh2) (fun cc => absurd rfl cc)
set_option maxHeartbeats 4000000 in
theorem L_liars (C : LC p s m c D cI cZ cC cH b) (hX : va_X b L xs s s.heap) (hbl : b < s.heap.size) (hL : L ≤ 3072) (i0 : 0 ≤ i.toInt) (i1 : i.toInt + 6 ≤ L) (hR : RelW cI cZ cC cH o o7 w w7) (hh : HS D (fun q : Nat => s.heap.size ≤ q) s.heap (w ++ w7) H locs) (hl : lv_has ls 4 [(0, .ref b), (1, .ref o), (2, .ref o7), (3, .int i)]) (K : ∀ (w1 w17 : va_W) (H1 : Heap) (locs1 : List Loc), RelW cI cZ cC cH o o7 w1 w17 → HS D (fun q : Nat => s.heap.size ≤ q) s.heap (w1 ++ w17) H1 locs1 → W p l e room_1 s m #[Value.ref b] below meth c H1 locs1 66 11288 Q (F0 m 823 ls [])) : W p l e room_1 s m #[Value.ref b] below meth c H locs 66 11288 Q (F0 m 403 ls []) := by
  have hx := C.1
  have hb := C.2.1
  have hbA : ¬ (fun q : Nat => s.heap.size ≤ q) b := Nat.not_le.mpr hbl
  obtain ⟨r, w1, w17, M1, M2, hR1, e1, e2⟩ := P_liars (l := l) (D := D) hR (xs (i + 1).toNatClampNeg)
  obtain ⟨v6, q6⟩ := he6 (x := w7) hR
  obtain ⟨v7, q7⟩ := he7 (x := w1) hR hR1.head.2.2
  refine lv_aload_n hx hb dL_law_403 rfl (lv_at hl 1 rfl) ?_
  refine lv_aload_n hx hb dL_law_404 rfl (lv_at hl 0 rfl) ?_
  refine lv_iload_n hx hb dL_law_405 rfl (lv_at hl 3 rfl) ?_
  refine lv_iconst (v := 1) hx hb dL_law_406 (by decide) ?_
  refine lv_iadd hx hb dL_law_407 ?_
  refine va_sld hx hb hX hbl hbA hh.2.2 (vin (n := 1) i0 i1 hL rfl (by decide)) dL_law_408 ?_
  refine g_callV (fr2 := 12) (lo2 := 448) (As := [.int (xs (i + 1).toNatClampNeg)]) (rest := []) C rfl ⟨Nat.le_of_ble_eq_true rfl, Nat.le_of_ble_eq_true rfl⟩ hh hl M1 (JN.left e1) 1 gL_law_X6_liars rfl (by decide +kernel) ⟨Nat.le_of_ble_eq_true rfl, Nat.le_of_ble_eq_true rfl⟩ 0 6 rfl rfl q6 rfl rfl (Nat.le_of_ble_eq_true rfl) dL_law_409 (fun H1 locs1 hh1 => ?_)
  clear hh
  have hh := hh1
  refine W.eq (g2 := F0 m 412 ls [.int r]) rfl ?_
  refine lv_aload_n hx hb dL_law_412 rfl (lv_at hl 2 rfl) ?_
  refine lv_aload_n hx hb dL_law_413 rfl (lv_at hl 0 rfl) ?_
  refine lv_iload_n hx hb dL_law_414 rfl (lv_at hl 3 rfl) ?_
  refine lv_iconst (v := 1) hx hb dL_law_415 (by decide) ?_
  refine lv_iadd hx hb dL_law_416 ?_
  refine va_sld hx hb hX hbl hbA hh.2.2 (vin (n := 1) i0 i1 hL rfl (by decide)) dL_law_417 ?_
  refine g_callV (fr2 := 12) (lo2 := 448) (As := [.int (xs (i + 1).toNatClampNeg)]) (rest := [.int r]) C rfl ⟨Nat.le_of_ble_eq_true rfl, Nat.le_of_ble_eq_true rfl⟩ hh hl M2 (JN.right e2) 1 gL_law_X7_liars rfl (by decide +kernel) ⟨Nat.le_of_ble_eq_true rfl, Nat.le_of_ble_eq_true rfl⟩ 55 7 rfl rfl q7 rfl rfl (Nat.le_of_ble_eq_true rfl) dL_law_418 (fun H2 locs2 hh2 => ?_)
  refine W.eq (g2 := F0 m 421 ls [.int r, .int r]) rfl ?_
  refine lv_icmp_eq (tgt := 823) hx hb dL_law_421 (by decide) (fun _ => K w1 w17 H2 locs2 hR1 hh2) (fun cc => absurd rfl cc)
set_option maxHeartbeats 4000000 in
theorem L_next (C : LC p s m c D cI cZ cC cH b) (hX : va_X b L xs s s.heap) (hbl : b < s.heap.size) (hL : L ≤ 3072) (i0 : 0 ≤ i.toInt) (i1 : i.toInt + 6 ≤ L) (hR : RelW cI cZ cC cH o o7 w w7) (hh : HS D (fun q : Nat => s.heap.size ≤ q) s.heap (w ++ w7) H locs) (hl : lv_has ls 4 [(0, .ref b), (1, .ref o), (2, .ref o7), (3, .int i)]) (K : ∀ (w1 w17 : va_W) (H1 : Heap) (locs1 : List Loc), RelW cI cZ cC cH o o7 w1 w17 → HS D (fun q : Nat => s.heap.size ≤ q) s.heap (w1 ++ w17) H1 locs1 → W p l e room_1 s m #[Value.ref b] below meth c H1 locs1 66 11288 Q (F0 m 823 ls [])) : W p l e room_1 s m #[Value.ref b] below meth c H locs 66 11288 Q (F0 m 426 ls []) := by
  have hx := C.1
  have hb := C.2.1
  have hbA : ¬ (fun q : Nat => s.heap.size ≤ q) b := Nat.not_le.mpr hbl
  obtain ⟨r, w1, w17, M1, M2, hR1, e1, e2⟩ := P_next (l := l) (D := D) hR (xs (i + 1).toNatClampNeg)
  obtain ⟨v6, q6⟩ := he6 (x := w7) hR
  obtain ⟨v7, q7⟩ := he7 (x := w1) hR hR1.head.2.2
  refine lv_aload_n hx hb dL_law_426 rfl (lv_at hl 1 rfl) ?_
  refine lv_aload_n hx hb dL_law_427 rfl (lv_at hl 0 rfl) ?_
  refine lv_iload_n hx hb dL_law_428 rfl (lv_at hl 3 rfl) ?_
  refine lv_iconst (v := 1) hx hb dL_law_429 (by decide) ?_
  refine lv_iadd hx hb dL_law_430 ?_
  refine va_sld hx hb hX hbl hbA hh.2.2 (vin (n := 1) i0 i1 hL rfl (by decide)) dL_law_431 ?_
  refine g_callV (fr2 := 12) (lo2 := 448) (As := [.int (xs (i + 1).toNatClampNeg)]) (rest := []) C rfl ⟨Nat.le_of_ble_eq_true rfl, Nat.le_of_ble_eq_true rfl⟩ hh hl M1 (JN.left e1) 1 gL_law_X6_next rfl (by decide +kernel) ⟨Nat.le_of_ble_eq_true rfl, Nat.le_of_ble_eq_true rfl⟩ 0 6 rfl rfl q6 rfl rfl (Nat.le_of_ble_eq_true rfl) dL_law_432 (fun H1 locs1 hh1 => ?_)
  clear hh
  have hh := hh1
  refine W.eq (g2 := F0 m 435 ls [.int r]) rfl ?_
  refine lv_aload_n hx hb dL_law_435 rfl (lv_at hl 2 rfl) ?_
  refine lv_aload_n hx hb dL_law_436 rfl (lv_at hl 0 rfl) ?_
  refine lv_iload_n hx hb dL_law_437 rfl (lv_at hl 3 rfl) ?_
  refine lv_iconst (v := 1) hx hb dL_law_438 (by decide) ?_
  refine lv_iadd hx hb dL_law_439 ?_
  refine va_sld hx hb hX hbl hbA hh.2.2 (vin (n := 1) i0 i1 hL rfl (by decide)) dL_law_440 ?_
  refine g_callV (fr2 := 12) (lo2 := 448) (As := [.int (xs (i + 1).toNatClampNeg)]) (rest := [.int r]) C rfl ⟨Nat.le_of_ble_eq_true rfl, Nat.le_of_ble_eq_true rfl⟩ hh hl M2 (JN.right e2) 1 gL_law_X7_next rfl (by decide +kernel) ⟨Nat.le_of_ble_eq_true rfl, Nat.le_of_ble_eq_true rfl⟩ 55 7 rfl rfl q7 rfl rfl (Nat.le_of_ble_eq_true rfl) dL_law_441 (fun H2 locs2 hh2 => ?_)
  refine W.eq (g2 := F0 m 444 ls [.int r, .int r]) rfl ?_
  refine lv_icmp_eq (tgt := 823) hx hb dL_law_444 (by decide) (fun _ => K w1 w17 H2 locs2 hR1 hh2) (fun cc => absurd rfl cc)
set_option maxHeartbeats 4000000 in
theorem L_note (C : LC p s m c D cI cZ cC cH b) (hX : va_X b L xs s s.heap) (hbl : b < s.heap.size) (hL : L ≤ 3072) (i0 : 0 ≤ i.toInt) (i1 : i.toInt + 6 ≤ L) (hR : RelW cI cZ cC cH o o7 w w7) (hh : HS D (fun q : Nat => s.heap.size ≤ q) s.heap (w ++ w7) H locs) (hl : lv_has ls 4 [(0, .ref b), (1, .ref o), (2, .ref o7), (3, .int i)]) (K : ∀ (w1 w17 : va_W) (H1 : Heap) (locs1 : List Loc), RelW cI cZ cC cH o o7 w1 w17 → HS D (fun q : Nat => s.heap.size ≤ q) s.heap (w1 ++ w17) H1 locs1 → W p l e room_1 s m #[Value.ref b] below meth c H1 locs1 66 11288 Q (F0 m 823 ls [])) : W p l e room_1 s m #[Value.ref b] below meth c H locs 66 11288 Q (F0 m 449 ls []) := by
  have hx := C.1
  have hb := C.2.1
  have hbA : ¬ (fun q : Nat => s.heap.size ≤ q) b := Nat.not_le.mpr hbl
  obtain ⟨r, w1, w17, M1, M2, hR1, e1, e2⟩ := P_note (l := l) (D := D) hR (xs (i + 1).toNatClampNeg) (xs (i + 2).toNatClampNeg) (xs (i + 3).toNatClampNeg)
  obtain ⟨v6, q6⟩ := he6 (x := w7) hR
  obtain ⟨v7, q7⟩ := he7 (x := w1) hR hR1.head.2.2
  refine lv_aload_n hx hb dL_law_449 rfl (lv_at hl 1 rfl) ?_
  refine lv_aload_n hx hb dL_law_450 rfl (lv_at hl 0 rfl) ?_
  refine lv_iload_n hx hb dL_law_451 rfl (lv_at hl 3 rfl) ?_
  refine lv_iconst (v := 1) hx hb dL_law_452 (by decide) ?_
  refine lv_iadd hx hb dL_law_453 ?_
  refine va_sld hx hb hX hbl hbA hh.2.2 (vin (n := 1) i0 i1 hL rfl (by decide)) dL_law_454 ?_
  refine lv_aload_n hx hb dL_law_455 rfl (lv_at hl 0 rfl) ?_
  refine lv_iload_n hx hb dL_law_456 rfl (lv_at hl 3 rfl) ?_
  refine lv_iconst (v := 2) hx hb dL_law_457 (by decide) ?_
  refine lv_iadd hx hb dL_law_458 ?_
  refine va_sld hx hb hX hbl hbA hh.2.2 (vin (n := 2) i0 i1 hL rfl (by decide)) dL_law_459 ?_
  refine lv_aload_n hx hb dL_law_460 rfl (lv_at hl 0 rfl) ?_
  refine lv_iload_n hx hb dL_law_461 rfl (lv_at hl 3 rfl) ?_
  refine lv_iconst (v := 3) hx hb dL_law_462 (by decide) ?_
  refine lv_iadd hx hb dL_law_463 ?_
  refine va_sld hx hb hX hbl hbA hh.2.2 (vin (n := 3) i0 i1 hL rfl (by decide)) dL_law_464 ?_
  refine g_callV (fr2 := 12) (lo2 := 448) (As := [.int (xs (i + 1).toNatClampNeg), .int (xs (i + 2).toNatClampNeg), .int (xs (i + 3).toNatClampNeg)]) (rest := []) C rfl ⟨Nat.le_of_ble_eq_true rfl, Nat.le_of_ble_eq_true rfl⟩ hh hl M1 (JN.left e1) 3 gL_law_X6_note rfl (by decide +kernel) ⟨Nat.le_of_ble_eq_true rfl, Nat.le_of_ble_eq_true rfl⟩ 0 6 rfl rfl q6 rfl rfl (Nat.le_of_ble_eq_true rfl) dL_law_465 (fun H1 locs1 hh1 => ?_)
  clear hh
  have hh := hh1
  refine W.eq (g2 := F0 m 468 ls [.int r]) rfl ?_
  refine lv_aload_n hx hb dL_law_468 rfl (lv_at hl 2 rfl) ?_
  refine lv_aload_n hx hb dL_law_469 rfl (lv_at hl 0 rfl) ?_
  refine lv_iload_n hx hb dL_law_470 rfl (lv_at hl 3 rfl) ?_
  refine lv_iconst (v := 1) hx hb dL_law_471 (by decide) ?_
  refine lv_iadd hx hb dL_law_472 ?_
  refine va_sld hx hb hX hbl hbA hh.2.2 (vin (n := 1) i0 i1 hL rfl (by decide)) dL_law_473 ?_
  refine lv_aload_n hx hb dL_law_474 rfl (lv_at hl 0 rfl) ?_
  refine lv_iload_n hx hb dL_law_475 rfl (lv_at hl 3 rfl) ?_
  refine lv_iconst (v := 2) hx hb dL_law_476 (by decide) ?_
  refine lv_iadd hx hb dL_law_477 ?_
  refine va_sld hx hb hX hbl hbA hh.2.2 (vin (n := 2) i0 i1 hL rfl (by decide)) dL_law_478 ?_
  refine lv_aload_n hx hb dL_law_479 rfl (lv_at hl 0 rfl) ?_
  refine lv_iload_n hx hb dL_law_480 rfl (lv_at hl 3 rfl) ?_
  refine lv_iconst (v := 3) hx hb dL_law_481 (by decide) ?_
  refine lv_iadd hx hb dL_law_482 ?_
  refine va_sld hx hb hX hbl hbA hh.2.2 (vin (n := 3) i0 i1 hL rfl (by decide)) dL_law_483 ?_
  refine g_callV (fr2 := 12) (lo2 := 448) (As := [.int (xs (i + 1).toNatClampNeg), .int (xs (i + 2).toNatClampNeg), .int (xs (i + 3).toNatClampNeg)]) (rest := [.int r]) C rfl ⟨Nat.le_of_ble_eq_true rfl, Nat.le_of_ble_eq_true rfl⟩ hh hl M2 (JN.right e2) 3 gL_law_X7_note rfl (by decide +kernel) ⟨Nat.le_of_ble_eq_true rfl, Nat.le_of_ble_eq_true rfl⟩ 55 7 rfl rfl q7 rfl rfl (Nat.le_of_ble_eq_true rfl) dL_law_484 (fun H2 locs2 hh2 => ?_)
  refine W.eq (g2 := F0 m 487 ls [.int r, .int r]) rfl ?_
  refine lv_icmp_eq (tgt := 823) hx hb dL_law_487 (by decide) (fun _ => K w1 w17 H2 locs2 hR1 hh2) (fun cc => absurd rfl cc)
set_option maxHeartbeats 4000000 in
theorem L_burn (C : LC p s m c D cI cZ cC cH b) (hX : va_X b L xs s s.heap) (hbl : b < s.heap.size) (hL : L ≤ 3072) (i0 : 0 ≤ i.toInt) (i1 : i.toInt + 6 ≤ L) (hR : RelW cI cZ cC cH o o7 w w7) (hh : HS D (fun q : Nat => s.heap.size ≤ q) s.heap (w ++ w7) H locs) (hl : lv_has ls 4 [(0, .ref b), (1, .ref o), (2, .ref o7), (3, .int i)]) (K : ∀ (w1 w17 : va_W) (H1 : Heap) (locs1 : List Loc), RelW cI cZ cC cH o o7 w1 w17 → HS D (fun q : Nat => s.heap.size ≤ q) s.heap (w1 ++ w17) H1 locs1 → W p l e room_1 s m #[Value.ref b] below meth c H1 locs1 66 11288 Q (F0 m 823 ls [])) : W p l e room_1 s m #[Value.ref b] below meth c H locs 66 11288 Q (F0 m 492 ls []) := by
  have hx := C.1
  have hb := C.2.1
  have hbA : ¬ (fun q : Nat => s.heap.size ≤ q) b := Nat.not_le.mpr hbl
  obtain ⟨r, w1, w17, M1, M2, hR1, e1, e2⟩ := P_burn (l := l) (D := D) hR 
  obtain ⟨v6, q6⟩ := he6 (x := w7) hR
  obtain ⟨v7, q7⟩ := he7 (x := w1) hR hR1.head.2.2
  refine lv_aload_n hx hb dL_law_492 rfl (lv_at hl 1 rfl) ?_
  refine g_callV (fr2 := 12) (lo2 := 448) (As := []) (rest := []) C rfl ⟨Nat.le_of_ble_eq_true rfl, Nat.le_of_ble_eq_true rfl⟩ hh hl M1 (JN.left e1) 0 gL_law_X6_burn rfl (by decide +kernel) ⟨Nat.le_of_ble_eq_true rfl, Nat.le_of_ble_eq_true rfl⟩ 0 6 rfl rfl q6 rfl rfl (Nat.le_of_ble_eq_true rfl) dL_law_493 (fun H1 locs1 hh1 => ?_)
  clear hh
  have hh := hh1
  refine W.eq (g2 := F0 m 496 ls [.int r]) rfl ?_
  refine lv_aload_n hx hb dL_law_496 rfl (lv_at hl 2 rfl) ?_
  refine g_callV (fr2 := 12) (lo2 := 448) (As := []) (rest := [.int r]) C rfl ⟨Nat.le_of_ble_eq_true rfl, Nat.le_of_ble_eq_true rfl⟩ hh hl M2 (JN.right e2) 0 gL_law_X7_burn rfl (by decide +kernel) ⟨Nat.le_of_ble_eq_true rfl, Nat.le_of_ble_eq_true rfl⟩ 55 7 rfl rfl q7 rfl rfl (Nat.le_of_ble_eq_true rfl) dL_law_497 (fun H2 locs2 hh2 => ?_)
  refine W.eq (g2 := F0 m 500 ls [.int r, .int r]) rfl ?_
  refine lv_icmp_eq (tgt := 823) hx hb dL_law_500 (by decide) (fun _ => K w1 w17 H2 locs2 hR1 hh2) (fun cc => absurd rfl cc)
set_option maxHeartbeats 4000000 in
theorem L_rates (C : LC p s m c D cI cZ cC cH b) (hX : va_X b L xs s s.heap) (hbl : b < s.heap.size) (hL : L ≤ 3072) (i0 : 0 ≤ i.toInt) (i1 : i.toInt + 6 ≤ L) (hR : RelW cI cZ cC cH o o7 w w7) (hh : HS D (fun q : Nat => s.heap.size ≤ q) s.heap (w ++ w7) H locs) (hl : lv_has ls 4 [(0, .ref b), (1, .ref o), (2, .ref o7), (3, .int i)]) (K : ∀ (w1 w17 : va_W) (H1 : Heap) (locs1 : List Loc), RelW cI cZ cC cH o o7 w1 w17 → HS D (fun q : Nat => s.heap.size ≤ q) s.heap (w1 ++ w17) H1 locs1 → W p l e room_1 s m #[Value.ref b] below meth c H1 locs1 66 11288 Q (F0 m 823 ls [])) : W p l e room_1 s m #[Value.ref b] below meth c H locs 66 11288 Q (F0 m 505 ls []) := by
  have hx := C.1
  have hb := C.2.1
  have hbA : ¬ (fun q : Nat => s.heap.size ≤ q) b := Nat.not_le.mpr hbl
  obtain ⟨r, w1, w17, M1, M2, hR1, e1, e2⟩ := P_rates (l := l) (D := D) hR (xs (i + 1).toNatClampNeg) (xs (i + 2).toNatClampNeg)
  obtain ⟨v6, q6⟩ := he6 (x := w7) hR
  obtain ⟨v7, q7⟩ := he7 (x := w1) hR hR1.head.2.2
  refine lv_aload_n hx hb dL_law_505 rfl (lv_at hl 1 rfl) ?_
  refine lv_aload_n hx hb dL_law_506 rfl (lv_at hl 0 rfl) ?_
  refine lv_iload_n hx hb dL_law_507 rfl (lv_at hl 3 rfl) ?_
  refine lv_iconst (v := 1) hx hb dL_law_508 (by decide) ?_
  refine lv_iadd hx hb dL_law_509 ?_
  refine va_sld hx hb hX hbl hbA hh.2.2 (vin (n := 1) i0 i1 hL rfl (by decide)) dL_law_510 ?_
  refine lv_aload_n hx hb dL_law_511 rfl (lv_at hl 0 rfl) ?_
  refine lv_iload_n hx hb dL_law_512 rfl (lv_at hl 3 rfl) ?_
  refine lv_iconst (v := 2) hx hb dL_law_513 (by decide) ?_
  refine lv_iadd hx hb dL_law_514 ?_
  refine va_sld hx hb hX hbl hbA hh.2.2 (vin (n := 2) i0 i1 hL rfl (by decide)) dL_law_515 ?_
  refine g_callV (fr2 := 12) (lo2 := 448) (As := [.int (xs (i + 1).toNatClampNeg), .int (xs (i + 2).toNatClampNeg)]) (rest := []) C rfl ⟨Nat.le_of_ble_eq_true rfl, Nat.le_of_ble_eq_true rfl⟩ hh hl M1 (JN.left e1) 2 gL_law_X6_rates rfl (by decide +kernel) ⟨Nat.le_of_ble_eq_true rfl, Nat.le_of_ble_eq_true rfl⟩ 0 6 rfl rfl q6 rfl rfl (Nat.le_of_ble_eq_true rfl) dL_law_516 (fun H1 locs1 hh1 => ?_)
  clear hh
  have hh := hh1
  refine W.eq (g2 := F0 m 519 ls [.int r]) rfl ?_
  refine lv_aload_n hx hb dL_law_519 rfl (lv_at hl 2 rfl) ?_
  refine lv_aload_n hx hb dL_law_520 rfl (lv_at hl 0 rfl) ?_
  refine lv_iload_n hx hb dL_law_521 rfl (lv_at hl 3 rfl) ?_
  refine lv_iconst (v := 1) hx hb dL_law_522 (by decide) ?_
  refine lv_iadd hx hb dL_law_523 ?_
  refine va_sld hx hb hX hbl hbA hh.2.2 (vin (n := 1) i0 i1 hL rfl (by decide)) dL_law_524 ?_
  refine lv_aload_n hx hb dL_law_525 rfl (lv_at hl 0 rfl) ?_
  refine lv_iload_n hx hb dL_law_526 rfl (lv_at hl 3 rfl) ?_
  refine lv_iconst (v := 2) hx hb dL_law_527 (by decide) ?_
  refine lv_iadd hx hb dL_law_528 ?_
  refine va_sld hx hb hX hbl hbA hh.2.2 (vin (n := 2) i0 i1 hL rfl (by decide)) dL_law_529 ?_
  refine g_callV (fr2 := 12) (lo2 := 448) (As := [.int (xs (i + 1).toNatClampNeg), .int (xs (i + 2).toNatClampNeg)]) (rest := [.int r]) C rfl ⟨Nat.le_of_ble_eq_true rfl, Nat.le_of_ble_eq_true rfl⟩ hh hl M2 (JN.right e2) 2 gL_law_X7_rates rfl (by decide +kernel) ⟨Nat.le_of_ble_eq_true rfl, Nat.le_of_ble_eq_true rfl⟩ 55 7 rfl rfl q7 rfl rfl (Nat.le_of_ble_eq_true rfl) dL_law_530 (fun H2 locs2 hh2 => ?_)
  refine W.eq (g2 := F0 m 533 ls [.int r, .int r]) rfl ?_
  refine lv_icmp_eq (tgt := 823) hx hb dL_law_533 (by decide) (fun _ => K w1 w17 H2 locs2 hR1 hh2) (fun cc => absurd rfl cc)
set_option maxHeartbeats 4000000 in
theorem L_again (C : LC p s m c D cI cZ cC cH b) (hX : va_X b L xs s s.heap) (hbl : b < s.heap.size) (hL : L ≤ 3072) (i0 : 0 ≤ i.toInt) (i1 : i.toInt + 6 ≤ L) (hR : RelW cI cZ cC cH o o7 w w7) (hh : HS D (fun q : Nat => s.heap.size ≤ q) s.heap (w ++ w7) H locs) (hl : lv_has ls 4 [(0, .ref b), (1, .ref o), (2, .ref o7), (3, .int i)]) (K : ∀ (w1 w17 : va_W) (H1 : Heap) (locs1 : List Loc), RelW cI cZ cC cH o o7 w1 w17 → HS D (fun q : Nat => s.heap.size ≤ q) s.heap (w1 ++ w17) H1 locs1 → W p l e room_1 s m #[Value.ref b] below meth c H1 locs1 66 11288 Q (F0 m 823 ls [])) : W p l e room_1 s m #[Value.ref b] below meth c H locs 66 11288 Q (F0 m 538 ls []) := by
  have hx := C.1
  have hb := C.2.1
  have hbA : ¬ (fun q : Nat => s.heap.size ≤ q) b := Nat.not_le.mpr hbl
  obtain ⟨r, w1, w17, M1, M2, hR1, e1, e2⟩ := P_again (l := l) (D := D) hR (xs (i + 1).toNatClampNeg) (xs (i + 2).toNatClampNeg)
  obtain ⟨v6, q6⟩ := he6 (x := w7) hR
  obtain ⟨v7, q7⟩ := he7 (x := w1) hR hR1.head.2.2
  refine lv_aload_n hx hb dL_law_538 rfl (lv_at hl 1 rfl) ?_
  refine lv_aload_n hx hb dL_law_539 rfl (lv_at hl 0 rfl) ?_
  refine lv_iload_n hx hb dL_law_540 rfl (lv_at hl 3 rfl) ?_
  refine lv_iconst (v := 1) hx hb dL_law_541 (by decide) ?_
  refine lv_iadd hx hb dL_law_542 ?_
  refine va_sld hx hb hX hbl hbA hh.2.2 (vin (n := 1) i0 i1 hL rfl (by decide)) dL_law_543 ?_
  refine lv_aload_n hx hb dL_law_544 rfl (lv_at hl 0 rfl) ?_
  refine lv_iload_n hx hb dL_law_545 rfl (lv_at hl 3 rfl) ?_
  refine lv_iconst (v := 2) hx hb dL_law_546 (by decide) ?_
  refine lv_iadd hx hb dL_law_547 ?_
  refine va_sld hx hb hX hbl hbA hh.2.2 (vin (n := 2) i0 i1 hL rfl (by decide)) dL_law_548 ?_
  refine g_callV (fr2 := 12) (lo2 := 448) (As := [.int (xs (i + 1).toNatClampNeg), .int (xs (i + 2).toNatClampNeg)]) (rest := []) C rfl ⟨Nat.le_of_ble_eq_true rfl, Nat.le_of_ble_eq_true rfl⟩ hh hl M1 (JN.left e1) 2 gL_law_X6_again rfl (by decide +kernel) ⟨Nat.le_of_ble_eq_true rfl, Nat.le_of_ble_eq_true rfl⟩ 0 6 rfl rfl q6 rfl rfl (Nat.le_of_ble_eq_true rfl) dL_law_549 (fun H1 locs1 hh1 => ?_)
  clear hh
  have hh := hh1
  refine W.eq (g2 := F0 m 552 ls [.int r]) rfl ?_
  refine lv_aload_n hx hb dL_law_552 rfl (lv_at hl 2 rfl) ?_
  refine lv_aload_n hx hb dL_law_553 rfl (lv_at hl 0 rfl) ?_
  refine lv_iload_n hx hb dL_law_554 rfl (lv_at hl 3 rfl) ?_
  refine lv_iconst (v := 1) hx hb dL_law_555 (by decide) ?_
  refine lv_iadd hx hb dL_law_556 ?_
  refine va_sld hx hb hX hbl hbA hh.2.2 (vin (n := 1) i0 i1 hL rfl (by decide)) dL_law_557 ?_
  refine lv_aload_n hx hb dL_law_558 rfl (lv_at hl 0 rfl) ?_
  refine lv_iload_n hx hb dL_law_559 rfl (lv_at hl 3 rfl) ?_
  refine lv_iconst (v := 2) hx hb dL_law_560 (by decide) ?_
  refine lv_iadd hx hb dL_law_561 ?_
  refine va_sld hx hb hX hbl hbA hh.2.2 (vin (n := 2) i0 i1 hL rfl (by decide)) dL_law_562 ?_
  refine g_callV (fr2 := 12) (lo2 := 448) (As := [.int (xs (i + 1).toNatClampNeg), .int (xs (i + 2).toNatClampNeg)]) (rest := [.int r]) C rfl ⟨Nat.le_of_ble_eq_true rfl, Nat.le_of_ble_eq_true rfl⟩ hh hl M2 (JN.right e2) 2 gL_law_X7_again rfl (by decide +kernel) ⟨Nat.le_of_ble_eq_true rfl, Nat.le_of_ble_eq_true rfl⟩ 55 7 rfl rfl q7 rfl rfl (Nat.le_of_ble_eq_true rfl) dL_law_563 (fun H2 locs2 hh2 => ?_)
  refine W.eq (g2 := F0 m 566 ls [.int r, .int r]) rfl ?_
  refine lv_icmp_eq (tgt := 823) hx hb dL_law_566 (by decide) (fun _ => K w1 w17 H2 locs2 hR1 hh2) (fun cc => absurd rfl cc)
set_option maxHeartbeats 4000000 in
theorem L_stopped (C : LC p s m c D cI cZ cC cH b) (hX : va_X b L xs s s.heap) (hbl : b < s.heap.size) (hL : L ≤ 3072) (i0 : 0 ≤ i.toInt) (i1 : i.toInt + 6 ≤ L) (hR : RelW cI cZ cC cH o o7 w w7) (hh : HS D (fun q : Nat => s.heap.size ≤ q) s.heap (w ++ w7) H locs) (hl : lv_has ls 4 [(0, .ref b), (1, .ref o), (2, .ref o7), (3, .int i)]) (K : ∀ (w1 w17 : va_W) (H1 : Heap) (locs1 : List Loc), RelW cI cZ cC cH o o7 w1 w17 → HS D (fun q : Nat => s.heap.size ≤ q) s.heap (w1 ++ w17) H1 locs1 → W p l e room_1 s m #[Value.ref b] below meth c H1 locs1 66 11288 Q (F0 m 823 ls [])) : W p l e room_1 s m #[Value.ref b] below meth c H locs 66 11288 Q (F0 m 571 ls []) := by
  have hx := C.1
  have hb := C.2.1
  have hbA : ¬ (fun q : Nat => s.heap.size ≤ q) b := Nat.not_le.mpr hbl
  obtain ⟨r, w1, w17, M1, M2, hR1, e1, e2⟩ := P_stopped (l := l) (D := D) hR (xs (i + 1).toNatClampNeg) (xs (i + 2).toNatClampNeg) (xs (i + 3).toNatClampNeg)
  obtain ⟨v6, q6⟩ := he6 (x := w7) hR
  obtain ⟨v7, q7⟩ := he7 (x := w1) hR hR1.head.2.2
  refine lv_aload_n hx hb dL_law_571 rfl (lv_at hl 1 rfl) ?_
  refine lv_aload_n hx hb dL_law_572 rfl (lv_at hl 0 rfl) ?_
  refine lv_iload_n hx hb dL_law_573 rfl (lv_at hl 3 rfl) ?_
  refine lv_iconst (v := 1) hx hb dL_law_574 (by decide) ?_
  refine lv_iadd hx hb dL_law_575 ?_
  refine va_sld hx hb hX hbl hbA hh.2.2 (vin (n := 1) i0 i1 hL rfl (by decide)) dL_law_576 ?_
  refine lv_aload_n hx hb dL_law_577 rfl (lv_at hl 0 rfl) ?_
  refine lv_iload_n hx hb dL_law_578 rfl (lv_at hl 3 rfl) ?_
  refine lv_iconst (v := 2) hx hb dL_law_579 (by decide) ?_
  refine lv_iadd hx hb dL_law_580 ?_
  refine va_sld hx hb hX hbl hbA hh.2.2 (vin (n := 2) i0 i1 hL rfl (by decide)) dL_law_581 ?_
  refine lv_aload_n hx hb dL_law_582 rfl (lv_at hl 0 rfl) ?_
  refine lv_iload_n hx hb dL_law_583 rfl (lv_at hl 3 rfl) ?_
  refine lv_iconst (v := 3) hx hb dL_law_584 (by decide) ?_
  refine lv_iadd hx hb dL_law_585 ?_
  refine va_sld hx hb hX hbl hbA hh.2.2 (vin (n := 3) i0 i1 hL rfl (by decide)) dL_law_586 ?_
  refine g_callV (fr2 := 12) (lo2 := 448) (As := [.int (xs (i + 1).toNatClampNeg), .int (xs (i + 2).toNatClampNeg), .int (xs (i + 3).toNatClampNeg)]) (rest := []) C rfl ⟨Nat.le_of_ble_eq_true rfl, Nat.le_of_ble_eq_true rfl⟩ hh hl M1 (JN.left e1) 3 gL_law_X6_stopped rfl (by decide +kernel) ⟨Nat.le_of_ble_eq_true rfl, Nat.le_of_ble_eq_true rfl⟩ 0 6 rfl rfl q6 rfl rfl (Nat.le_of_ble_eq_true rfl) dL_law_587 (fun H1 locs1 hh1 => ?_)
  clear hh
  have hh := hh1
  refine W.eq (g2 := F0 m 590 ls [.int r]) rfl ?_
  refine lv_aload_n hx hb dL_law_590 rfl (lv_at hl 2 rfl) ?_
  refine lv_aload_n hx hb dL_law_591 rfl (lv_at hl 0 rfl) ?_
  refine lv_iload_n hx hb dL_law_592 rfl (lv_at hl 3 rfl) ?_
  refine lv_iconst (v := 1) hx hb dL_law_593 (by decide) ?_
  refine lv_iadd hx hb dL_law_594 ?_
  refine va_sld hx hb hX hbl hbA hh.2.2 (vin (n := 1) i0 i1 hL rfl (by decide)) dL_law_595 ?_
  refine lv_aload_n hx hb dL_law_596 rfl (lv_at hl 0 rfl) ?_
  refine lv_iload_n hx hb dL_law_597 rfl (lv_at hl 3 rfl) ?_
  refine lv_iconst (v := 2) hx hb dL_law_598 (by decide) ?_
  refine lv_iadd hx hb dL_law_599 ?_
  refine va_sld hx hb hX hbl hbA hh.2.2 (vin (n := 2) i0 i1 hL rfl (by decide)) dL_law_600 ?_
  refine lv_aload_n hx hb dL_law_601 rfl (lv_at hl 0 rfl) ?_
  refine lv_iload_n hx hb dL_law_602 rfl (lv_at hl 3 rfl) ?_
  refine lv_iconst (v := 3) hx hb dL_law_603 (by decide) ?_
  refine lv_iadd hx hb dL_law_604 ?_
  refine va_sld hx hb hX hbl hbA hh.2.2 (vin (n := 3) i0 i1 hL rfl (by decide)) dL_law_605 ?_
  refine g_callV (fr2 := 12) (lo2 := 448) (As := [.int (xs (i + 1).toNatClampNeg), .int (xs (i + 2).toNatClampNeg), .int (xs (i + 3).toNatClampNeg)]) (rest := [.int r]) C rfl ⟨Nat.le_of_ble_eq_true rfl, Nat.le_of_ble_eq_true rfl⟩ hh hl M2 (JN.right e2) 3 gL_law_X7_stopped rfl (by decide +kernel) ⟨Nat.le_of_ble_eq_true rfl, Nat.le_of_ble_eq_true rfl⟩ 55 7 rfl rfl q7 rfl rfl (Nat.le_of_ble_eq_true rfl) dL_law_606 (fun H2 locs2 hh2 => ?_)
  refine W.eq (g2 := F0 m 609 ls [.int r, .int r]) rfl ?_
  refine lv_icmp_eq (tgt := 823) hx hb dL_law_609 (by decide) (fun _ => K w1 w17 H2 locs2 hR1 hh2) (fun cc => absurd rfl cc)
set_option maxHeartbeats 4000000 in
theorem L_setBy (C : LC p s m c D cI cZ cC cH b) (hX : va_X b L xs s s.heap) (hbl : b < s.heap.size) (hL : L ≤ 3072) (i0 : 0 ≤ i.toInt) (i1 : i.toInt + 6 ≤ L) (hR : RelW cI cZ cC cH o o7 w w7) (hh : HS D (fun q : Nat => s.heap.size ≤ q) s.heap (w ++ w7) H locs) (hl : lv_has ls 4 [(0, .ref b), (1, .ref o), (2, .ref o7), (3, .int i)]) (K : ∀ (w1 w17 : va_W) (H1 : Heap) (locs1 : List Loc), RelW cI cZ cC cH o o7 w1 w17 → HS D (fun q : Nat => s.heap.size ≤ q) s.heap (w1 ++ w17) H1 locs1 → W p l e room_1 s m #[Value.ref b] below meth c H1 locs1 66 11288 Q (F0 m 823 ls [])) : W p l e room_1 s m #[Value.ref b] below meth c H locs 66 11288 Q (F0 m 614 ls []) := by
  have hx := C.1
  have hb := C.2.1
  have hbA : ¬ (fun q : Nat => s.heap.size ≤ q) b := Nat.not_le.mpr hbl
  obtain ⟨r, w1, w17, M1, M2, hR1, e1, e2⟩ := P_setBy (l := l) (D := D) hR (xs (i + 1).toNatClampNeg) (xs (i + 2).toNatClampNeg) (xs (i + 3).toNatClampNeg) (xs (i + 4).toNatClampNeg)
  obtain ⟨v6, q6⟩ := he6 (x := w7) hR
  obtain ⟨v7, q7⟩ := he7 (x := w1) hR hR1.head.2.2
  refine lv_aload_n hx hb dL_law_614 rfl (lv_at hl 1 rfl) ?_
  refine lv_aload_n hx hb dL_law_615 rfl (lv_at hl 0 rfl) ?_
  refine lv_iload_n hx hb dL_law_616 rfl (lv_at hl 3 rfl) ?_
  refine lv_iconst (v := 1) hx hb dL_law_617 (by decide) ?_
  refine lv_iadd hx hb dL_law_618 ?_
  refine va_sld hx hb hX hbl hbA hh.2.2 (vin (n := 1) i0 i1 hL rfl (by decide)) dL_law_619 ?_
  refine lv_aload_n hx hb dL_law_620 rfl (lv_at hl 0 rfl) ?_
  refine lv_iload_n hx hb dL_law_621 rfl (lv_at hl 3 rfl) ?_
  refine lv_iconst (v := 2) hx hb dL_law_622 (by decide) ?_
  refine lv_iadd hx hb dL_law_623 ?_
  refine va_sld hx hb hX hbl hbA hh.2.2 (vin (n := 2) i0 i1 hL rfl (by decide)) dL_law_624 ?_
  refine lv_aload_n hx hb dL_law_625 rfl (lv_at hl 0 rfl) ?_
  refine lv_iload_n hx hb dL_law_626 rfl (lv_at hl 3 rfl) ?_
  refine lv_iconst (v := 3) hx hb dL_law_627 (by decide) ?_
  refine lv_iadd hx hb dL_law_628 ?_
  refine va_sld hx hb hX hbl hbA hh.2.2 (vin (n := 3) i0 i1 hL rfl (by decide)) dL_law_629 ?_
  refine lv_aload_n hx hb dL_law_630 rfl (lv_at hl 0 rfl) ?_
  refine lv_iload_n hx hb dL_law_631 rfl (lv_at hl 3 rfl) ?_
  refine lv_iconst (v := 4) hx hb dL_law_632 (by decide) ?_
  refine lv_iadd hx hb dL_law_633 ?_
  refine va_sld hx hb hX hbl hbA hh.2.2 (vin (n := 4) i0 i1 hL rfl (by decide)) dL_law_634 ?_
  refine g_callV (fr2 := 12) (lo2 := 448) (As := [.int (xs (i + 1).toNatClampNeg), .int (xs (i + 2).toNatClampNeg), .int (xs (i + 3).toNatClampNeg), .int (xs (i + 4).toNatClampNeg)]) (rest := []) C rfl ⟨Nat.le_of_ble_eq_true rfl, Nat.le_of_ble_eq_true rfl⟩ hh hl M1 (JN.left e1) 4 gL_law_X6_setBy rfl (by decide +kernel) ⟨Nat.le_of_ble_eq_true rfl, Nat.le_of_ble_eq_true rfl⟩ 0 6 rfl rfl q6 rfl rfl (Nat.le_of_ble_eq_true rfl) dL_law_635 (fun H1 locs1 hh1 => ?_)
  clear hh
  have hh := hh1
  refine W.eq (g2 := F0 m 638 ls [.int r]) rfl ?_
  refine lv_aload_n hx hb dL_law_638 rfl (lv_at hl 2 rfl) ?_
  refine lv_aload_n hx hb dL_law_639 rfl (lv_at hl 0 rfl) ?_
  refine lv_iload_n hx hb dL_law_640 rfl (lv_at hl 3 rfl) ?_
  refine lv_iconst (v := 1) hx hb dL_law_641 (by decide) ?_
  refine lv_iadd hx hb dL_law_642 ?_
  refine va_sld hx hb hX hbl hbA hh.2.2 (vin (n := 1) i0 i1 hL rfl (by decide)) dL_law_643 ?_
  refine lv_aload_n hx hb dL_law_644 rfl (lv_at hl 0 rfl) ?_
  refine lv_iload_n hx hb dL_law_645 rfl (lv_at hl 3 rfl) ?_
  refine lv_iconst (v := 2) hx hb dL_law_646 (by decide) ?_
  refine lv_iadd hx hb dL_law_647 ?_
  refine va_sld hx hb hX hbl hbA hh.2.2 (vin (n := 2) i0 i1 hL rfl (by decide)) dL_law_648 ?_
  refine lv_aload_n hx hb dL_law_649 rfl (lv_at hl 0 rfl) ?_
  refine lv_iload_n hx hb dL_law_650 rfl (lv_at hl 3 rfl) ?_
  refine lv_iconst (v := 3) hx hb dL_law_651 (by decide) ?_
  refine lv_iadd hx hb dL_law_652 ?_
  refine va_sld hx hb hX hbl hbA hh.2.2 (vin (n := 3) i0 i1 hL rfl (by decide)) dL_law_653 ?_
  refine lv_aload_n hx hb dL_law_654 rfl (lv_at hl 0 rfl) ?_
  refine lv_iload_n hx hb dL_law_655 rfl (lv_at hl 3 rfl) ?_
  refine lv_iconst (v := 4) hx hb dL_law_656 (by decide) ?_
  refine lv_iadd hx hb dL_law_657 ?_
  refine va_sld hx hb hX hbl hbA hh.2.2 (vin (n := 4) i0 i1 hL rfl (by decide)) dL_law_658 ?_
  refine g_callV (fr2 := 12) (lo2 := 448) (As := [.int (xs (i + 1).toNatClampNeg), .int (xs (i + 2).toNatClampNeg), .int (xs (i + 3).toNatClampNeg), .int (xs (i + 4).toNatClampNeg)]) (rest := [.int r]) C rfl ⟨Nat.le_of_ble_eq_true rfl, Nat.le_of_ble_eq_true rfl⟩ hh hl M2 (JN.right e2) 4 gL_law_X7_setBy rfl (by decide +kernel) ⟨Nat.le_of_ble_eq_true rfl, Nat.le_of_ble_eq_true rfl⟩ 55 7 rfl rfl q7 rfl rfl (Nat.le_of_ble_eq_true rfl) dL_law_659 (fun H2 locs2 hh2 => ?_)
  refine W.eq (g2 := F0 m 662 ls [.int r, .int r]) rfl ?_
  refine lv_icmp_eq (tgt := 823) hx hb dL_law_662 (by decide) (fun _ => K w1 w17 H2 locs2 hR1 hh2) (fun cc => absurd rfl cc)
set_option maxHeartbeats 4000000 in
theorem L_egg (C : LC p s m c D cI cZ cC cH b) (hX : va_X b L xs s s.heap) (hbl : b < s.heap.size) (hL : L ≤ 3072) (i0 : 0 ≤ i.toInt) (i1 : i.toInt + 6 ≤ L) (hR : RelW cI cZ cC cH o o7 w w7) (hh : HS D (fun q : Nat => s.heap.size ≤ q) s.heap (w ++ w7) H locs) (hl : lv_has ls 4 [(0, .ref b), (1, .ref o), (2, .ref o7), (3, .int i)]) (K : ∀ (w1 w17 : va_W) (H1 : Heap) (locs1 : List Loc), RelW cI cZ cC cH o o7 w1 w17 → HS D (fun q : Nat => s.heap.size ≤ q) s.heap (w1 ++ w17) H1 locs1 → W p l e room_1 s m #[Value.ref b] below meth c H1 locs1 66 11288 Q (F0 m 823 ls [])) : W p l e room_1 s m #[Value.ref b] below meth c H locs 66 11288 Q (F0 m 667 ls []) := by
  have hx := C.1
  have hb := C.2.1
  have hbA : ¬ (fun q : Nat => s.heap.size ≤ q) b := Nat.not_le.mpr hbl
  obtain ⟨r, w1, w17, M1, M2, hR1, e1, e2⟩ := P_egg (l := l) (D := D) hR (xs (i + 1).toNatClampNeg) (xs (i + 2).toNatClampNeg) (xs (i + 3).toNatClampNeg) (xs (i + 4).toNatClampNeg) (xs (i + 5).toNatClampNeg)
  obtain ⟨v6, q6⟩ := he6 (x := w7) hR
  obtain ⟨v7, q7⟩ := he7 (x := w1) hR hR1.head.2.2
  refine lv_aload_n hx hb dL_law_667 rfl (lv_at hl 1 rfl) ?_
  refine lv_aload_n hx hb dL_law_668 rfl (lv_at hl 0 rfl) ?_
  refine lv_iload_n hx hb dL_law_669 rfl (lv_at hl 3 rfl) ?_
  refine lv_iconst (v := 1) hx hb dL_law_670 (by decide) ?_
  refine lv_iadd hx hb dL_law_671 ?_
  refine va_sld hx hb hX hbl hbA hh.2.2 (vin (n := 1) i0 i1 hL rfl (by decide)) dL_law_672 ?_
  refine lv_aload_n hx hb dL_law_673 rfl (lv_at hl 0 rfl) ?_
  refine lv_iload_n hx hb dL_law_674 rfl (lv_at hl 3 rfl) ?_
  refine lv_iconst (v := 2) hx hb dL_law_675 (by decide) ?_
  refine lv_iadd hx hb dL_law_676 ?_
  refine va_sld hx hb hX hbl hbA hh.2.2 (vin (n := 2) i0 i1 hL rfl (by decide)) dL_law_677 ?_
  refine lv_aload_n hx hb dL_law_678 rfl (lv_at hl 0 rfl) ?_
  refine lv_iload_n hx hb dL_law_679 rfl (lv_at hl 3 rfl) ?_
  refine lv_iconst (v := 3) hx hb dL_law_680 (by decide) ?_
  refine lv_iadd hx hb dL_law_681 ?_
  refine va_sld hx hb hX hbl hbA hh.2.2 (vin (n := 3) i0 i1 hL rfl (by decide)) dL_law_682 ?_
  refine lv_aload_n hx hb dL_law_683 rfl (lv_at hl 0 rfl) ?_
  refine lv_iload_n hx hb dL_law_684 rfl (lv_at hl 3 rfl) ?_
  refine lv_iconst (v := 4) hx hb dL_law_685 (by decide) ?_
  refine lv_iadd hx hb dL_law_686 ?_
  refine va_sld hx hb hX hbl hbA hh.2.2 (vin (n := 4) i0 i1 hL rfl (by decide)) dL_law_687 ?_
  refine lv_aload_n hx hb dL_law_688 rfl (lv_at hl 0 rfl) ?_
  refine lv_iload_n hx hb dL_law_689 rfl (lv_at hl 3 rfl) ?_
  refine lv_iconst (v := 5) hx hb dL_law_690 (by decide) ?_
  refine lv_iadd hx hb dL_law_691 ?_
  refine va_sld hx hb hX hbl hbA hh.2.2 (vin (n := 5) i0 i1 hL rfl (by decide)) dL_law_692 ?_
  refine g_callV (fr2 := 12) (lo2 := 448) (As := [.int (xs (i + 1).toNatClampNeg), .int (xs (i + 2).toNatClampNeg), .int (xs (i + 3).toNatClampNeg), .int (xs (i + 4).toNatClampNeg), .int (xs (i + 5).toNatClampNeg)]) (rest := []) C rfl ⟨Nat.le_of_ble_eq_true rfl, Nat.le_of_ble_eq_true rfl⟩ hh hl M1 (JN.left e1) 5 gL_law_X6_egg rfl (by decide +kernel) ⟨Nat.le_of_ble_eq_true rfl, Nat.le_of_ble_eq_true rfl⟩ 0 6 rfl rfl q6 rfl rfl (Nat.le_of_ble_eq_true rfl) dL_law_693 (fun H1 locs1 hh1 => ?_)
  clear hh
  have hh := hh1
  refine W.eq (g2 := F0 m 696 ls [.long r]) rfl ?_
  refine lv_aload_n hx hb dL_law_696 rfl (lv_at hl 2 rfl) ?_
  refine lv_aload_n hx hb dL_law_697 rfl (lv_at hl 0 rfl) ?_
  refine lv_iload_n hx hb dL_law_698 rfl (lv_at hl 3 rfl) ?_
  refine lv_iconst (v := 1) hx hb dL_law_699 (by decide) ?_
  refine lv_iadd hx hb dL_law_700 ?_
  refine va_sld hx hb hX hbl hbA hh.2.2 (vin (n := 1) i0 i1 hL rfl (by decide)) dL_law_701 ?_
  refine lv_aload_n hx hb dL_law_702 rfl (lv_at hl 0 rfl) ?_
  refine lv_iload_n hx hb dL_law_703 rfl (lv_at hl 3 rfl) ?_
  refine lv_iconst (v := 2) hx hb dL_law_704 (by decide) ?_
  refine lv_iadd hx hb dL_law_705 ?_
  refine va_sld hx hb hX hbl hbA hh.2.2 (vin (n := 2) i0 i1 hL rfl (by decide)) dL_law_706 ?_
  refine lv_aload_n hx hb dL_law_707 rfl (lv_at hl 0 rfl) ?_
  refine lv_iload_n hx hb dL_law_708 rfl (lv_at hl 3 rfl) ?_
  refine lv_iconst (v := 3) hx hb dL_law_709 (by decide) ?_
  refine lv_iadd hx hb dL_law_710 ?_
  refine va_sld hx hb hX hbl hbA hh.2.2 (vin (n := 3) i0 i1 hL rfl (by decide)) dL_law_711 ?_
  refine lv_aload_n hx hb dL_law_712 rfl (lv_at hl 0 rfl) ?_
  refine lv_iload_n hx hb dL_law_713 rfl (lv_at hl 3 rfl) ?_
  refine lv_iconst (v := 4) hx hb dL_law_714 (by decide) ?_
  refine lv_iadd hx hb dL_law_715 ?_
  refine va_sld hx hb hX hbl hbA hh.2.2 (vin (n := 4) i0 i1 hL rfl (by decide)) dL_law_716 ?_
  refine lv_aload_n hx hb dL_law_717 rfl (lv_at hl 0 rfl) ?_
  refine lv_iload_n hx hb dL_law_718 rfl (lv_at hl 3 rfl) ?_
  refine lv_iconst (v := 5) hx hb dL_law_719 (by decide) ?_
  refine lv_iadd hx hb dL_law_720 ?_
  refine va_sld hx hb hX hbl hbA hh.2.2 (vin (n := 5) i0 i1 hL rfl (by decide)) dL_law_721 ?_
  refine g_callV (fr2 := 12) (lo2 := 448) (As := [.int (xs (i + 1).toNatClampNeg), .int (xs (i + 2).toNatClampNeg), .int (xs (i + 3).toNatClampNeg), .int (xs (i + 4).toNatClampNeg), .int (xs (i + 5).toNatClampNeg)]) (rest := [.long r]) C rfl ⟨Nat.le_of_ble_eq_true rfl, Nat.le_of_ble_eq_true rfl⟩ hh hl M2 (JN.right e2) 5 gL_law_X7_egg rfl (by decide +kernel) ⟨Nat.le_of_ble_eq_true rfl, Nat.le_of_ble_eq_true rfl⟩ 55 7 rfl rfl q7 rfl rfl (Nat.le_of_ble_eq_true rfl) dL_law_722 (fun H2 locs2 hh2 => ?_)
  refine W.eq (g2 := F0 m 725 ls [.long r, .long r]) rfl ?_
  refine W.lcmp hx hb dL_law_725 ?_
  refine lv_if_eq (tgt := 823) hx hb dL_law_726 (by decide) (fun _ => K w1 w17 H2 locs2 hR1 hh2) (fun cc => absurd ((lc_eq r r).mpr rfl) cc)
set_option maxHeartbeats 4000000 in
theorem L_order (C : LC p s m c D cI cZ cC cH b) (hX : va_X b L xs s s.heap) (hbl : b < s.heap.size) (hL : L ≤ 3072) (i0 : 0 ≤ i.toInt) (i1 : i.toInt + 6 ≤ L) (hR : RelW cI cZ cC cH o o7 w w7) (hh : HS D (fun q : Nat => s.heap.size ≤ q) s.heap (w ++ w7) H locs) (hl : lv_has ls 4 [(0, .ref b), (1, .ref o), (2, .ref o7), (3, .int i)]) (K : ∀ (w1 w17 : va_W) (H1 : Heap) (locs1 : List Loc), RelW cI cZ cC cH o o7 w1 w17 → HS D (fun q : Nat => s.heap.size ≤ q) s.heap (w1 ++ w17) H1 locs1 → W p l e room_1 s m #[Value.ref b] below meth c H1 locs1 66 11288 Q (F0 m 823 ls [])) : W p l e room_1 s m #[Value.ref b] below meth c H locs 66 11288 Q (F0 m 731 ls []) := by
  have hx := C.1
  have hb := C.2.1
  have hbA : ¬ (fun q : Nat => s.heap.size ≤ q) b := Nat.not_le.mpr hbl
  obtain ⟨r, w1, w17, M1, M2, hR1, e1, e2⟩ := P_order (l := l) (D := D) hR (xs (i + 1).toNatClampNeg)
  obtain ⟨v6, q6⟩ := he6 (x := w7) hR
  obtain ⟨v7, q7⟩ := he7 (x := w1) hR hR1.head.2.2
  refine lv_aload_n hx hb dL_law_731 rfl (lv_at hl 1 rfl) ?_
  refine lv_aload_n hx hb dL_law_732 rfl (lv_at hl 0 rfl) ?_
  refine lv_iload_n hx hb dL_law_733 rfl (lv_at hl 3 rfl) ?_
  refine lv_iconst (v := 1) hx hb dL_law_734 (by decide) ?_
  refine lv_iadd hx hb dL_law_735 ?_
  refine va_sld hx hb hX hbl hbA hh.2.2 (vin (n := 1) i0 i1 hL rfl (by decide)) dL_law_736 ?_
  refine g_callV (fr2 := 12) (lo2 := 448) (As := [.int (xs (i + 1).toNatClampNeg)]) (rest := []) C rfl ⟨Nat.le_of_ble_eq_true rfl, Nat.le_of_ble_eq_true rfl⟩ hh hl M1 (JN.left e1) 1 gL_law_X6_order rfl (by decide +kernel) ⟨Nat.le_of_ble_eq_true rfl, Nat.le_of_ble_eq_true rfl⟩ 0 6 rfl rfl q6 rfl rfl (Nat.le_of_ble_eq_true rfl) dL_law_737 (fun H1 locs1 hh1 => ?_)
  clear hh
  have hh := hh1
  refine W.eq (g2 := F0 m 740 ls [.int r]) rfl ?_
  refine lv_aload_n hx hb dL_law_740 rfl (lv_at hl 2 rfl) ?_
  refine lv_aload_n hx hb dL_law_741 rfl (lv_at hl 0 rfl) ?_
  refine lv_iload_n hx hb dL_law_742 rfl (lv_at hl 3 rfl) ?_
  refine lv_iconst (v := 1) hx hb dL_law_743 (by decide) ?_
  refine lv_iadd hx hb dL_law_744 ?_
  refine va_sld hx hb hX hbl hbA hh.2.2 (vin (n := 1) i0 i1 hL rfl (by decide)) dL_law_745 ?_
  refine g_callV (fr2 := 12) (lo2 := 448) (As := [.int (xs (i + 1).toNatClampNeg)]) (rest := [.int r]) C rfl ⟨Nat.le_of_ble_eq_true rfl, Nat.le_of_ble_eq_true rfl⟩ hh hl M2 (JN.right e2) 1 gL_law_X7_order rfl (by decide +kernel) ⟨Nat.le_of_ble_eq_true rfl, Nat.le_of_ble_eq_true rfl⟩ 55 7 rfl rfl q7 rfl rfl (Nat.le_of_ble_eq_true rfl) dL_law_746 (fun H2 locs2 hh2 => ?_)
  refine W.eq (g2 := F0 m 749 ls [.int r, .int r]) rfl ?_
  refine lv_icmp_eq (tgt := 823) hx hb dL_law_749 (by decide) (fun _ => K w1 w17 H2 locs2 hR1 hh2) (fun cc => absurd rfl cc)
set_option maxHeartbeats 4000000 in
theorem L_keep (C : LC p s m c D cI cZ cC cH b) (hX : va_X b L xs s s.heap) (hbl : b < s.heap.size) (hL : L ≤ 3072) (i0 : 0 ≤ i.toInt) (i1 : i.toInt + 6 ≤ L) (hR : RelW cI cZ cC cH o o7 w w7) (hh : HS D (fun q : Nat => s.heap.size ≤ q) s.heap (w ++ w7) H locs) (hl : lv_has ls 4 [(0, .ref b), (1, .ref o), (2, .ref o7), (3, .int i)]) (K : ∀ (w1 w17 : va_W) (H1 : Heap) (locs1 : List Loc), RelW cI cZ cC cH o o7 w1 w17 → HS D (fun q : Nat => s.heap.size ≤ q) s.heap (w1 ++ w17) H1 locs1 → W p l e room_1 s m #[Value.ref b] below meth c H1 locs1 66 11288 Q (F0 m 823 ls [])) : W p l e room_1 s m #[Value.ref b] below meth c H locs 66 11288 Q (F0 m 754 ls []) := by
  have hx := C.1
  have hb := C.2.1
  have hbA : ¬ (fun q : Nat => s.heap.size ≤ q) b := Nat.not_le.mpr hbl
  obtain ⟨r, w1, w17, M1, M2, hR1, e1, e2⟩ := P_keep (l := l) (D := D) hR (xs (i + 1).toNatClampNeg)
  obtain ⟨v6, q6⟩ := he6 (x := w7) hR
  obtain ⟨v7, q7⟩ := he7 (x := w1) hR hR1.head.2.2
  refine lv_aload_n hx hb dL_law_754 rfl (lv_at hl 1 rfl) ?_
  refine lv_aload_n hx hb dL_law_755 rfl (lv_at hl 0 rfl) ?_
  refine lv_iload_n hx hb dL_law_756 rfl (lv_at hl 3 rfl) ?_
  refine lv_iconst (v := 1) hx hb dL_law_757 (by decide) ?_
  refine lv_iadd hx hb dL_law_758 ?_
  refine va_sld hx hb hX hbl hbA hh.2.2 (vin (n := 1) i0 i1 hL rfl (by decide)) dL_law_759 ?_
  refine g_callV (fr2 := 12) (lo2 := 448) (As := [.int (xs (i + 1).toNatClampNeg)]) (rest := []) C rfl ⟨Nat.le_of_ble_eq_true rfl, Nat.le_of_ble_eq_true rfl⟩ hh hl M1 (JN.left e1) 1 gL_law_X6_keep rfl (by decide +kernel) ⟨Nat.le_of_ble_eq_true rfl, Nat.le_of_ble_eq_true rfl⟩ 0 6 rfl rfl q6 rfl rfl (Nat.le_of_ble_eq_true rfl) dL_law_760 (fun H1 locs1 hh1 => ?_)
  clear hh
  have hh := hh1
  refine W.eq (g2 := F0 m 763 ls [.int r]) rfl ?_
  refine lv_aload_n hx hb dL_law_763 rfl (lv_at hl 2 rfl) ?_
  refine lv_aload_n hx hb dL_law_764 rfl (lv_at hl 0 rfl) ?_
  refine lv_iload_n hx hb dL_law_765 rfl (lv_at hl 3 rfl) ?_
  refine lv_iconst (v := 1) hx hb dL_law_766 (by decide) ?_
  refine lv_iadd hx hb dL_law_767 ?_
  refine va_sld hx hb hX hbl hbA hh.2.2 (vin (n := 1) i0 i1 hL rfl (by decide)) dL_law_768 ?_
  refine g_callV (fr2 := 12) (lo2 := 448) (As := [.int (xs (i + 1).toNatClampNeg)]) (rest := [.int r]) C rfl ⟨Nat.le_of_ble_eq_true rfl, Nat.le_of_ble_eq_true rfl⟩ hh hl M2 (JN.right e2) 1 gL_law_X7_keep rfl (by decide +kernel) ⟨Nat.le_of_ble_eq_true rfl, Nat.le_of_ble_eq_true rfl⟩ 55 7 rfl rfl q7 rfl rfl (Nat.le_of_ble_eq_true rfl) dL_law_769 (fun H2 locs2 hh2 => ?_)
  refine W.eq (g2 := F0 m 772 ls [.int r, .int r]) rfl ?_
  refine lv_icmp_eq (tgt := 823) hx hb dL_law_772 (by decide) (fun _ => K w1 w17 H2 locs2 hR1 hh2) (fun cc => absurd rfl cc)
set_option maxHeartbeats 4000000 in
theorem L_back (C : LC p s m c D cI cZ cC cH b) (hX : va_X b L xs s s.heap) (hbl : b < s.heap.size) (hL : L ≤ 3072) (i0 : 0 ≤ i.toInt) (i1 : i.toInt + 6 ≤ L) (hR : RelW cI cZ cC cH o o7 w w7) (hh : HS D (fun q : Nat => s.heap.size ≤ q) s.heap (w ++ w7) H locs) (hl : lv_has ls 4 [(0, .ref b), (1, .ref o), (2, .ref o7), (3, .int i)]) (K : ∀ (w1 w17 : va_W) (H1 : Heap) (locs1 : List Loc), RelW cI cZ cC cH o o7 w1 w17 → HS D (fun q : Nat => s.heap.size ≤ q) s.heap (w1 ++ w17) H1 locs1 → W p l e room_1 s m #[Value.ref b] below meth c H1 locs1 66 11288 Q (F0 m 823 ls [])) : W p l e room_1 s m #[Value.ref b] below meth c H locs 66 11288 Q (F0 m 777 ls []) := by
  have hx := C.1
  have hb := C.2.1
  have hbA : ¬ (fun q : Nat => s.heap.size ≤ q) b := Nat.not_le.mpr hbl
  obtain ⟨r, w1, w17, M1, M2, hR1, e1, e2⟩ := P_back (l := l) (D := D) hR (xs (i + 1).toNatClampNeg)
  obtain ⟨v6, q6⟩ := he6 (x := w7) hR
  obtain ⟨v7, q7⟩ := he7 (x := w1) hR hR1.head.2.2
  refine lv_aload_n hx hb dL_law_777 rfl (lv_at hl 1 rfl) ?_
  refine lv_aload_n hx hb dL_law_778 rfl (lv_at hl 0 rfl) ?_
  refine lv_iload_n hx hb dL_law_779 rfl (lv_at hl 3 rfl) ?_
  refine lv_iconst (v := 1) hx hb dL_law_780 (by decide) ?_
  refine lv_iadd hx hb dL_law_781 ?_
  refine va_sld hx hb hX hbl hbA hh.2.2 (vin (n := 1) i0 i1 hL rfl (by decide)) dL_law_782 ?_
  refine g_callV (fr2 := 12) (lo2 := 448) (As := [.int (xs (i + 1).toNatClampNeg)]) (rest := []) C rfl ⟨Nat.le_of_ble_eq_true rfl, Nat.le_of_ble_eq_true rfl⟩ hh hl M1 (JN.left e1) 1 gL_law_X6_back rfl (by decide +kernel) ⟨Nat.le_of_ble_eq_true rfl, Nat.le_of_ble_eq_true rfl⟩ 0 6 rfl rfl q6 rfl rfl (Nat.le_of_ble_eq_true rfl) dL_law_783 (fun H1 locs1 hh1 => ?_)
  clear hh
  have hh := hh1
  refine W.eq (g2 := F0 m 786 ls [.int r]) rfl ?_
  refine lv_aload_n hx hb dL_law_786 rfl (lv_at hl 2 rfl) ?_
  refine lv_aload_n hx hb dL_law_787 rfl (lv_at hl 0 rfl) ?_
  refine lv_iload_n hx hb dL_law_788 rfl (lv_at hl 3 rfl) ?_
  refine lv_iconst (v := 1) hx hb dL_law_789 (by decide) ?_
  refine lv_iadd hx hb dL_law_790 ?_
  refine va_sld hx hb hX hbl hbA hh.2.2 (vin (n := 1) i0 i1 hL rfl (by decide)) dL_law_791 ?_
  refine g_callV (fr2 := 12) (lo2 := 448) (As := [.int (xs (i + 1).toNatClampNeg)]) (rest := [.int r]) C rfl ⟨Nat.le_of_ble_eq_true rfl, Nat.le_of_ble_eq_true rfl⟩ hh hl M2 (JN.right e2) 1 gL_law_X7_back rfl (by decide +kernel) ⟨Nat.le_of_ble_eq_true rfl, Nat.le_of_ble_eq_true rfl⟩ 55 7 rfl rfl q7 rfl rfl (Nat.le_of_ble_eq_true rfl) dL_law_792 (fun H2 locs2 hh2 => ?_)
  refine W.eq (g2 := F0 m 795 ls [.int r, .int r]) rfl ?_
  refine lv_icmp_eq (tgt := 823) hx hb dL_law_795 (by decide) (fun _ => K w1 w17 H2 locs2 hR1 hh2) (fun cc => absurd rfl cc)
set_option maxHeartbeats 4000000 in
theorem L_count (C : LC p s m c D cI cZ cC cH b) (hX : va_X b L xs s s.heap) (hbl : b < s.heap.size) (hL : L ≤ 3072) (i0 : 0 ≤ i.toInt) (i1 : i.toInt + 6 ≤ L) (hR : RelW cI cZ cC cH o o7 w w7) (hh : HS D (fun q : Nat => s.heap.size ≤ q) s.heap (w ++ w7) H locs) (hl : lv_has ls 4 [(0, .ref b), (1, .ref o), (2, .ref o7), (3, .int i)]) (K : ∀ (w1 w17 : va_W) (H1 : Heap) (locs1 : List Loc), RelW cI cZ cC cH o o7 w1 w17 → HS D (fun q : Nat => s.heap.size ≤ q) s.heap (w1 ++ w17) H1 locs1 → W p l e room_1 s m #[Value.ref b] below meth c H1 locs1 66 11288 Q (F0 m 823 ls [])) : W p l e room_1 s m #[Value.ref b] below meth c H locs 66 11288 Q (F0 m 800 ls []) := by
  have hx := C.1
  have hb := C.2.1
  have hbA : ¬ (fun q : Nat => s.heap.size ≤ q) b := Nat.not_le.mpr hbl
  obtain ⟨r, w1, w17, M1, M2, hR1, e1, e2⟩ := P_count (l := l) (D := D) hR (xs (i + 1).toNatClampNeg)
  obtain ⟨v6, q6⟩ := he6 (x := w7) hR
  obtain ⟨v7, q7⟩ := he7 (x := w1) hR hR1.head.2.2
  refine lv_aload_n hx hb dL_law_800 rfl (lv_at hl 1 rfl) ?_
  refine lv_aload_n hx hb dL_law_801 rfl (lv_at hl 0 rfl) ?_
  refine lv_iload_n hx hb dL_law_802 rfl (lv_at hl 3 rfl) ?_
  refine lv_iconst (v := 1) hx hb dL_law_803 (by decide) ?_
  refine lv_iadd hx hb dL_law_804 ?_
  refine va_sld hx hb hX hbl hbA hh.2.2 (vin (n := 1) i0 i1 hL rfl (by decide)) dL_law_805 ?_
  refine g_callV (fr2 := 12) (lo2 := 448) (As := [.int (xs (i + 1).toNatClampNeg)]) (rest := []) C rfl ⟨Nat.le_of_ble_eq_true rfl, Nat.le_of_ble_eq_true rfl⟩ hh hl M1 (JN.left e1) 1 gL_law_X6_count rfl (by decide +kernel) ⟨Nat.le_of_ble_eq_true rfl, Nat.le_of_ble_eq_true rfl⟩ 0 6 rfl rfl q6 rfl rfl (Nat.le_of_ble_eq_true rfl) dL_law_806 (fun H1 locs1 hh1 => ?_)
  clear hh
  have hh := hh1
  refine W.eq (g2 := F0 m 809 ls [.int r]) rfl ?_
  refine lv_aload_n hx hb dL_law_809 rfl (lv_at hl 2 rfl) ?_
  refine lv_aload_n hx hb dL_law_810 rfl (lv_at hl 0 rfl) ?_
  refine lv_iload_n hx hb dL_law_811 rfl (lv_at hl 3 rfl) ?_
  refine lv_iconst (v := 1) hx hb dL_law_812 (by decide) ?_
  refine lv_iadd hx hb dL_law_813 ?_
  refine va_sld hx hb hX hbl hbA hh.2.2 (vin (n := 1) i0 i1 hL rfl (by decide)) dL_law_814 ?_
  refine g_callV (fr2 := 12) (lo2 := 448) (As := [.int (xs (i + 1).toNatClampNeg)]) (rest := [.int r]) C rfl ⟨Nat.le_of_ble_eq_true rfl, Nat.le_of_ble_eq_true rfl⟩ hh hl M2 (JN.right e2) 1 gL_law_X7_count rfl (by decide +kernel) ⟨Nat.le_of_ble_eq_true rfl, Nat.le_of_ble_eq_true rfl⟩ 55 7 rfl rfl q7 rfl rfl (Nat.le_of_ble_eq_true rfl) dL_law_815 (fun H2 locs2 hh2 => ?_)
  refine W.eq (g2 := F0 m 818 ls [.int r, .int r]) rfl ?_
  refine lv_icmp_eq (tgt := 823) hx hb dL_law_818 (by decide) (fun _ => K w1 w17 H2 locs2 hR1 hh2) (fun cc => absurd rfl cc)
end LAW
