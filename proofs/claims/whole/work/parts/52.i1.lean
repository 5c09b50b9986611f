/-- a clock that is not told -/
def ck0 : Nat → Nat → Int32 := fun _ j => if j = 0 then -1 else if j = 5 then -1 else 0
def z0 : Nat → Int32 := fun _ => 0
theorem in_X0_init_X0 : ∀ x ∈ u_ws RX0 TX0 6, x ∈ wsX0_init := by decide +kernel
set_option maxHeartbeats 4000000 in
set_option maxRecDepth 100000 in
theorem c_X0_init (l : Launch) (D : va_G) (cI cZ cC cH : ClassId) (h : Nat) : MI l D (TY cI cZ cC cH) yX0_init wsX0_init 1 20 0 0 [.ref h] [(h, .inr (0, [.int 0, .int 0, .int 0, .int 0, .int 0, .int 0]))] (fun q => [(h, .inr (0, [.int (-1), .int 0, .int 0, .int 0, .int 0, .int (-1)]))]) := by
  refine MI.of (cc := cX0_init) (maxL := 1) RX0 rfl rfl (by decide +kernel) rfl (Nat.le_of_ble_eq_true rfl) ?_
  intro p e s m args below meth c A Q KX hO hin RT hh ls hl
  have hx := KX.1
  have hb := KX.2.1
  have hl : lv_has ls 1 [(0, .ref h)] := hl
  refine lv_aload_n hx hb dX0_init_0 rfl (lv_at hl 0 rfl) ?_
  refine g_obj KX hl (List.mem_of_getElem? (i := 1) rfl) (List.mem_of_getElem? (i := 2) rfl) (List.mem_of_getElem? (i := 3) rfl) (Nat.le_of_ble_eq_true rfl) (Nat.le_of_ble_eq_true rfl) (Nat.le_of_ble_eq_true rfl) dX0_init_1 ?_
  refine lv_aload_n hx hb dX0_init_4 rfl (lv_at hl 0 rfl) ?_
  refine lv_iconst (v := (-1)) hx hb dX0_init_5 (by decide) ?_
  refine g_put KX hh in_X0_init_X0 tyX0 tyX0_ok nmX0 0 rfl rfl 0 (by decide) rfl rfl rfl (Nat.le_of_ble_eq_true rfl) (List.mem_of_getElem? (i := 4) rfl) (w' := [(h, .inr (0, [.int (-1), .int 0, .int 0, .int 0, .int 0, .int 0]))]) rfl rfl dX0_init_6 (fun H locs hh => ?_)
  refine lv_aload_n hx hb dX0_init_9 rfl (lv_at hl 0 rfl) ?_
  refine lv_iconst (v := 0) hx hb dX0_init_10 (by decide) ?_
  refine g_put KX hh in_X0_init_X0 tyX0 tyX0_ok nmX0 0 rfl rfl 1 (by decide) rfl rfl rfl (Nat.le_of_ble_eq_true rfl) (List.mem_of_getElem? (i := 5) rfl) (w' := [(h, .inr (0, [.int (-1), .int 0, .int 0, .int 0, .int 0, .int 0]))]) rfl rfl dX0_init_11 (fun H locs hh => ?_)
  refine lv_aload_n hx hb dX0_init_14 rfl (lv_at hl 0 rfl) ?_
  refine lv_iconst (v := 0) hx hb dX0_init_15 (by decide) ?_
  refine g_put KX hh in_X0_init_X0 tyX0 tyX0_ok nmX0 0 rfl rfl 2 (by decide) rfl rfl rfl (Nat.le_of_ble_eq_true rfl) (List.mem_of_getElem? (i := 6) rfl) (w' := [(h, .inr (0, [.int (-1), .int 0, .int 0, .int 0, .int 0, .int 0]))]) rfl rfl dX0_init_16 (fun H locs hh => ?_)
  refine lv_aload_n hx hb dX0_init_19 rfl (lv_at hl 0 rfl) ?_
  refine lv_iconst (v := 0) hx hb dX0_init_20 (by decide) ?_
  refine g_put KX hh in_X0_init_X0 tyX0 tyX0_ok nmX0 0 rfl rfl 3 (by decide) rfl rfl rfl (Nat.le_of_ble_eq_true rfl) (List.mem_of_getElem? (i := 7) rfl) (w' := [(h, .inr (0, [.int (-1), .int 0, .int 0, .int 0, .int 0, .int 0]))]) rfl rfl dX0_init_21 (fun H locs hh => ?_)
  refine lv_aload_n hx hb dX0_init_24 rfl (lv_at hl 0 rfl) ?_
  refine lv_iconst (v := 0) hx hb dX0_init_25 (by decide) ?_
  refine g_put KX hh in_X0_init_X0 tyX0 tyX0_ok nmX0 0 rfl rfl 4 (by decide) rfl rfl rfl (Nat.le_of_ble_eq_true rfl) (List.mem_of_getElem? (i := 8) rfl) (w' := [(h, .inr (0, [.int (-1), .int 0, .int 0, .int 0, .int 0, .int 0]))]) rfl rfl dX0_init_26 (fun H locs hh => ?_)
  refine lv_aload_n hx hb dX0_init_29 rfl (lv_at hl 0 rfl) ?_
  refine lv_iconst (v := (-1)) hx hb dX0_init_30 (by decide) ?_
  refine g_put KX hh in_X0_init_X0 tyX0 tyX0_ok nmX0 0 rfl rfl 5 (by decide) rfl rfl rfl (Nat.le_of_ble_eq_true rfl) (List.mem_of_getElem? (i := 9) rfl) (w' := [(h, .inr (0, [.int (-1), .int 0, .int 0, .int 0, .int 0, .int (-1)]))]) rfl rfl dX0_init_31 (fun H locs hh => ?_)
  exact RT (fun _ => 0) _ _ _ _ hh dX0_init_34
theorem in_X4_init_X4 : ∀ x ∈ u_ws RX4 TX4 4, x ∈ wsX4_init := by decide +kernel
set_option maxHeartbeats 4000000 in
set_option maxRecDepth 100000 in
theorem c_X4_init (l : Launch) (D : va_G) (cI cZ cC cH : ClassId) (h : Nat) : MI l D (TY cI cZ cC cH) yX4_init wsX4_init 1 20 0 0 [.ref h] [(h, .inr (4, [.int 0, .int 0, .int 0, .int 0]))] (fun q => [(h, .inr (4, [.int 0, .int (-1), .int (-1), .int 0]))]) := by
  refine MI.of (cc := cX4_init) (maxL := 1) RX4 rfl rfl (by decide +kernel) rfl (Nat.le_of_ble_eq_true rfl) ?_
  intro p e s m args below meth c A Q KX hO hin RT hh ls hl
  have hx := KX.1
  have hb := KX.2.1
  have hl : lv_has ls 1 [(0, .ref h)] := hl
  refine lv_aload_n hx hb dX4_init_0 rfl (lv_at hl 0 rfl) ?_
  refine g_obj KX hl (List.mem_of_getElem? (i := 1) rfl) (List.mem_of_getElem? (i := 2) rfl) (List.mem_of_getElem? (i := 3) rfl) (Nat.le_of_ble_eq_true rfl) (Nat.le_of_ble_eq_true rfl) (Nat.le_of_ble_eq_true rfl) dX4_init_1 ?_
  refine lv_aload_n hx hb dX4_init_4 rfl (lv_at hl 0 rfl) ?_
  refine lv_iconst (v := 0) hx hb dX4_init_5 (by decide) ?_
  refine g_put KX hh in_X4_init_X4 tyX4 tyX4_ok nmX4 0 rfl rfl 0 (by decide) rfl rfl rfl (Nat.le_of_ble_eq_true rfl) (List.mem_of_getElem? (i := 4) rfl) (w' := [(h, .inr (4, [.int 0, .int 0, .int 0, .int 0]))]) rfl rfl dX4_init_6 (fun H locs hh => ?_)
  refine lv_aload_n hx hb dX4_init_9 rfl (lv_at hl 0 rfl) ?_
  refine lv_iconst (v := (-1)) hx hb dX4_init_10 (by decide) ?_
  refine g_put KX hh in_X4_init_X4 tyX4 tyX4_ok nmX4 0 rfl rfl 1 (by decide) rfl rfl rfl (Nat.le_of_ble_eq_true rfl) (List.mem_of_getElem? (i := 5) rfl) (w' := [(h, .inr (4, [.int 0, .int (-1), .int 0, .int 0]))]) rfl rfl dX4_init_11 (fun H locs hh => ?_)
  refine lv_aload_n hx hb dX4_init_14 rfl (lv_at hl 0 rfl) ?_
  refine lv_iconst (v := (-1)) hx hb dX4_init_15 (by decide) ?_
  refine g_put KX hh in_X4_init_X4 tyX4 tyX4_ok nmX4 0 rfl rfl 2 (by decide) rfl rfl rfl (Nat.le_of_ble_eq_true rfl) (List.mem_of_getElem? (i := 6) rfl) (w' := [(h, .inr (4, [.int 0, .int (-1), .int (-1), .int 0]))]) rfl rfl dX4_init_16 (fun H locs hh => ?_)
  refine lv_aload_n hx hb dX4_init_19 rfl (lv_at hl 0 rfl) ?_
  refine lv_iconst (v := 0) hx hb dX4_init_20 (by decide) ?_
  refine g_put KX hh in_X4_init_X4 tyX4 tyX4_ok nmX4 0 rfl rfl 3 (by decide) rfl rfl rfl (Nat.le_of_ble_eq_true rfl) (List.mem_of_getElem? (i := 7) rfl) (w' := [(h, .inr (4, [.int 0, .int (-1), .int (-1), .int 0]))]) rfl rfl dX4_init_21 (fun H locs hh => ?_)
  exact RT (fun _ => 0) _ _ _ _ hh dX4_init_24
theorem in_X2_init_X2 : ∀ x ∈ u_ws RX2 TX2 4, x ∈ wsX2_init := by decide +kernel
set_option maxHeartbeats 4000000 in
set_option maxRecDepth 100000 in
theorem c_X2_init (l : Launch) (D : va_G) (cI cZ cC cH : ClassId) (h : Nat) : MI l D (TY cI cZ cC cH) yX2_init wsX2_init 1 20 3 36 [.ref h] [(h, .inr (2, [.int 0, .null, .null, .null]))] (fun q => [(h, .inr (2, [.int 0, .ref (q 0), .ref (q 1), .ref (q 2)])), ((q 0), .inl (cI, 12, .inl (fun _ => 0))), ((q 1), .inl (cI, 12, .inl (fun _ => 0))), ((q 2), .inl (cI, 12, .inl (fun _ => 0)))]) := by
  refine MI.of (cc := cX2_init) (maxL := 1) RX2 rfl rfl (by decide +kernel) rfl (Nat.le_of_ble_eq_true rfl) ?_
  intro p e s m args below meth c A Q KX hO hin RT hh ls hl
  have hx := KX.1
  have hb := KX.2.1
  have hl : lv_has ls 1 [(0, .ref h)] := hl
  refine lv_aload_n hx hb dX2_init_0 rfl (lv_at hl 0 rfl) ?_
  refine g_obj KX hl (List.mem_of_getElem? (i := 1) rfl) (List.mem_of_getElem? (i := 2) rfl) (List.mem_of_getElem? (i := 3) rfl) (Nat.le_of_ble_eq_true rfl) (Nat.le_of_ble_eq_true rfl) (Nat.le_of_ble_eq_true rfl) dX2_init_1 ?_
  refine lv_aload_n hx hb dX2_init_4 rfl (lv_at hl 0 rfl) ?_
  refine lv_iconst (v := 0) hx hb dX2_init_5 (by decide) ?_
  refine g_put KX hh in_X2_init_X2 tyX2 tyX2_ok nmX2 0 rfl rfl 0 (by decide) rfl rfl rfl (Nat.le_of_ble_eq_true rfl) (List.mem_of_getElem? (i := 4) rfl) (w' := [(h, .inr (2, [.int 0, .null, .null, .null]))]) rfl rfl dX2_init_6 (fun H locs hh => ?_)
  refine lv_aload_n hx hb dX2_init_9 rfl (lv_at hl 0 rfl) ?_
  refine lv_bipush (v := 12) hx hb dX2_init_10 (by decide) ?_
  refine g_newi (cI := cI) (c2 := 1) (s2 := 12) KX hh (List.mem_of_getElem? (i := 5) rfl) 0 rfl (by decide) rfl (Nat.le_of_ble_eq_true rfl) rfl rfl ⟨Nat.le_of_ble_eq_true rfl, Nat.le_of_ble_eq_true rfl⟩ dX2_init_12 (fun z1 H hh => ?_)
  have hh : HS D A s.heap [(h, .inr (2, [.int 0, .null, .null, .null])), (z1, .inl (cI, 12, .inl (fun _ => 0)))] H _ := hh
  refine g_putF KX hin hh in_X2_init_X2 tyX2 tyX2_ok nmX2 0 rfl rfl 1 (by decide) rfl rfl rfl rfl (Nat.le_of_ble_eq_true rfl) (List.mem_of_getElem? (i := 6) rfl) (w' := [(h, .inr (2, [.int 0, .ref z1, .null, .null])), (z1, .inl (cI, 12, .inl (fun _ => 0)))]) rfl rfl dX2_init_14 (fun H locs hh => ?_)
  refine lv_aload_n hx hb dX2_init_17 rfl (lv_at hl 0 rfl) ?_
  refine lv_bipush (v := 12) hx hb dX2_init_18 (by decide) ?_
  refine g_newi (cI := cI) (c2 := 2) (s2 := 24) KX hh (List.mem_of_getElem? (i := 5) rfl) 0 rfl (by decide) rfl (Nat.le_of_ble_eq_true rfl) rfl rfl ⟨Nat.le_of_ble_eq_true rfl, Nat.le_of_ble_eq_true rfl⟩ dX2_init_20 (fun z2 H hh => ?_)
  have hh : HS D A s.heap [(h, .inr (2, [.int 0, .ref z1, .null, .null])), (z1, .inl (cI, 12, .inl (fun _ => 0))), (z2, .inl (cI, 12, .inl (fun _ => 0)))] H _ := hh
  refine g_putF KX hin hh in_X2_init_X2 tyX2 tyX2_ok nmX2 0 rfl rfl 2 (by decide) rfl rfl rfl rfl (Nat.le_of_ble_eq_true rfl) (List.mem_of_getElem? (i := 7) rfl) (w' := [(h, .inr (2, [.int 0, .ref z1, .ref z2, .null])), (z1, .inl (cI, 12, .inl (fun _ => 0))), (z2, .inl (cI, 12, .inl (fun _ => 0)))]) rfl rfl dX2_init_22 (fun H locs hh => ?_)
  refine lv_aload_n hx hb dX2_init_25 rfl (lv_at hl 0 rfl) ?_
  refine lv_bipush (v := 12) hx hb dX2_init_26 (by decide) ?_
  refine g_newi (cI := cI) (c2 := 3) (s2 := 36) KX hh (List.mem_of_getElem? (i := 5) rfl) 0 rfl (by decide) rfl (Nat.le_of_ble_eq_true rfl) rfl rfl ⟨Nat.le_of_ble_eq_true rfl, Nat.le_of_ble_eq_true rfl⟩ dX2_init_28 (fun z3 H hh => ?_)
  have hh : HS D A s.heap [(h, .inr (2, [.int 0, .ref z1, .ref z2, .null])), (z1, .inl (cI, 12, .inl (fun _ => 0))), (z2, .inl (cI, 12, .inl (fun _ => 0))), (z3, .inl (cI, 12, .inl (fun _ => 0)))] H _ := hh
  refine g_putF KX hin hh in_X2_init_X2 tyX2 tyX2_ok nmX2 0 rfl rfl 3 (by decide) rfl rfl rfl rfl (Nat.le_of_ble_eq_true rfl) (List.mem_of_getElem? (i := 8) rfl) (w' := [(h, .inr (2, [.int 0, .ref z1, .ref z2, .ref z3])), (z1, .inl (cI, 12, .inl (fun _ => 0))), (z2, .inl (cI, 12, .inl (fun _ => 0))), (z3, .inl (cI, 12, .inl (fun _ => 0)))]) rfl rfl dX2_init_30 (fun H locs hh => ?_)
  exact RT (fun i => [z1, z2, z3].getD i 0) _ _ _ _ hh dX2_init_33
theorem in_X3_init_X3 : ∀ x ∈ u_ws RX3 TX3 4, x ∈ wsX3_init := by decide +kernel
set_option maxHeartbeats 4000000 in
set_option maxRecDepth 100000 in
theorem c_X3_init (l : Launch) (D : va_G) (cI cZ cC cH : ClassId) (h : Nat) : MI l D (TY cI cZ cC cH) yX3_init wsX3_init 1 20 3 80 [.ref h] [(h, .inr (3, [.int 0, .null, .null, .null]))] (fun q => [(h, .inr (3, [.int 0, .ref (q 0), .ref (q 1), .ref (q 2)])), ((q 0), .inl (cI, 8, .inl (fun _ => 0))), ((q 1), .inl (cI, 8, .inl (fun _ => 0))), ((q 2), .inl (cI, 64, .inl (fun _ => 0)))]) := by
  refine MI.of (cc := cX3_init) (maxL := 1) RX3 rfl rfl (by decide +kernel) rfl (Nat.le_of_ble_eq_true rfl) ?_
  intro p e s m args below meth c A Q KX hO hin RT hh ls hl
  have hx := KX.1
  have hb := KX.2.1
  have hl : lv_has ls 1 [(0, .ref h)] := hl
  refine lv_aload_n hx hb dX3_init_0 rfl (lv_at hl 0 rfl) ?_
  refine g_obj KX hl (List.mem_of_getElem? (i := 1) rfl) (List.mem_of_getElem? (i := 2) rfl) (List.mem_of_getElem? (i := 3) rfl) (Nat.le_of_ble_eq_true rfl) (Nat.le_of_ble_eq_true rfl) (Nat.le_of_ble_eq_true rfl) dX3_init_1 ?_
  refine lv_aload_n hx hb dX3_init_4 rfl (lv_at hl 0 rfl) ?_
  refine lv_iconst (v := 0) hx hb dX3_init_5 (by decide) ?_
  refine g_put KX hh in_X3_init_X3 tyX3 tyX3_ok nmX3 0 rfl rfl 0 (by decide) rfl rfl rfl (Nat.le_of_ble_eq_true rfl) (List.mem_of_getElem? (i := 4) rfl) (w' := [(h, .inr (3, [.int 0, .null, .null, .null]))]) rfl rfl dX3_init_6 (fun H locs hh => ?_)
  refine lv_aload_n hx hb dX3_init_9 rfl (lv_at hl 0 rfl) ?_
  refine lv_bipush (v := 8) hx hb dX3_init_10 (by decide) ?_
  refine g_newi (cI := cI) (c2 := 1) (s2 := 8) KX hh (List.mem_of_getElem? (i := 5) rfl) 0 rfl (by decide) rfl (Nat.le_of_ble_eq_true rfl) rfl rfl ⟨Nat.le_of_ble_eq_true rfl, Nat.le_of_ble_eq_true rfl⟩ dX3_init_12 (fun z1 H hh => ?_)
  have hh : HS D A s.heap [(h, .inr (3, [.int 0, .null, .null, .null])), (z1, .inl (cI, 8, .inl (fun _ => 0)))] H _ := hh
  refine g_putF KX hin hh in_X3_init_X3 tyX3 tyX3_ok nmX3 0 rfl rfl 1 (by decide) rfl rfl rfl rfl (Nat.le_of_ble_eq_true rfl) (List.mem_of_getElem? (i := 6) rfl) (w' := [(h, .inr (3, [.int 0, .ref z1, .null, .null])), (z1, .inl (cI, 8, .inl (fun _ => 0)))]) rfl rfl dX3_init_14 (fun H locs hh => ?_)
  refine lv_aload_n hx hb dX3_init_17 rfl (lv_at hl 0 rfl) ?_
  refine lv_bipush (v := 8) hx hb dX3_init_18 (by decide) ?_
  refine g_newi (cI := cI) (c2 := 2) (s2 := 16) KX hh (List.mem_of_getElem? (i := 5) rfl) 0 rfl (by decide) rfl (Nat.le_of_ble_eq_true rfl) rfl rfl ⟨Nat.le_of_ble_eq_true rfl, Nat.le_of_ble_eq_true rfl⟩ dX3_init_20 (fun z2 H hh => ?_)
  have hh : HS D A s.heap [(h, .inr (3, [.int 0, .ref z1, .null, .null])), (z1, .inl (cI, 8, .inl (fun _ => 0))), (z2, .inl (cI, 8, .inl (fun _ => 0)))] H _ := hh
  refine g_putF KX hin hh in_X3_init_X3 tyX3 tyX3_ok nmX3 0 rfl rfl 2 (by decide) rfl rfl rfl rfl (Nat.le_of_ble_eq_true rfl) (List.mem_of_getElem? (i := 7) rfl) (w' := [(h, .inr (3, [.int 0, .ref z1, .ref z2, .null])), (z1, .inl (cI, 8, .inl (fun _ => 0))), (z2, .inl (cI, 8, .inl (fun _ => 0)))]) rfl rfl dX3_init_22 (fun H locs hh => ?_)
  refine lv_aload_n hx hb dX3_init_25 rfl (lv_at hl 0 rfl) ?_
  refine lv_bipush (v := 64) hx hb dX3_init_26 (by decide) ?_
  refine g_newi (cI := cI) (c2 := 3) (s2 := 80) KX hh (List.mem_of_getElem? (i := 5) rfl) 0 rfl (by decide) rfl (Nat.le_of_ble_eq_true rfl) rfl rfl ⟨Nat.le_of_ble_eq_true rfl, Nat.le_of_ble_eq_true rfl⟩ dX3_init_28 (fun z3 H hh => ?_)
  have hh : HS D A s.heap [(h, .inr (3, [.int 0, .ref z1, .ref z2, .null])), (z1, .inl (cI, 8, .inl (fun _ => 0))), (z2, .inl (cI, 8, .inl (fun _ => 0))), (z3, .inl (cI, 64, .inl (fun _ => 0)))] H _ := hh
  refine g_putF KX hin hh in_X3_init_X3 tyX3 tyX3_ok nmX3 0 rfl rfl 3 (by decide) rfl rfl rfl rfl (Nat.le_of_ble_eq_true rfl) (List.mem_of_getElem? (i := 8) rfl) (w' := [(h, .inr (3, [.int 0, .ref z1, .ref z2, .ref z3])), (z1, .inl (cI, 8, .inl (fun _ => 0))), (z2, .inl (cI, 8, .inl (fun _ => 0))), (z3, .inl (cI, 64, .inl (fun _ => 0)))]) rfl rfl dX3_init_30 (fun H locs hh => ?_)
  exact RT (fun i => [z1, z2, z3].getD i 0) _ _ _ _ hh dX3_init_33
theorem in_X5_init_X5 : ∀ x ∈ u_ws RX5 TX5 6, x ∈ wsX5_init := by decide +kernel
set_option maxHeartbeats 4000000 in
set_option maxRecDepth 100000 in
theorem c_X5_init (l : Launch) (D : va_G) (cI cZ cC cH : ClassId) (h : Nat) : MI l D (TY cI cZ cC cH) yX5_init wsX5_init 1 20 2 248 [.ref h] [(h, .inr (5, [.null, .int 0, .null, .int 0, .int 0, .int 0]))] (fun q => [(h, .inr (5, [.ref (q 0), .int 0, .ref (q 1), .int 0, .int 0, .int 0])), ((q 0), .inl (cI, 200, .inl (fun _ => 0))), ((q 1), .inl (cI, 48, .inl (fun _ => 0)))]) := by
  refine MI.of (cc := cX5_init) (maxL := 1) RX5 rfl rfl (by decide +kernel) rfl (Nat.le_of_ble_eq_true rfl) ?_
  intro p e s m args below meth c A Q KX hO hin RT hh ls hl
  have hx := KX.1
  have hb := KX.2.1
  have hl : lv_has ls 1 [(0, .ref h)] := hl
  refine lv_aload_n hx hb dX5_init_0 rfl (lv_at hl 0 rfl) ?_
  refine g_obj KX hl (List.mem_of_getElem? (i := 1) rfl) (List.mem_of_getElem? (i := 2) rfl) (List.mem_of_getElem? (i := 3) rfl) (Nat.le_of_ble_eq_true rfl) (Nat.le_of_ble_eq_true rfl) (Nat.le_of_ble_eq_true rfl) dX5_init_1 ?_
  refine lv_aload_n hx hb dX5_init_4 rfl (lv_at hl 0 rfl) ?_
  refine lv_sipush (v := 200) hx hb dX5_init_5 (by decide) ?_
  refine g_newi (cI := cI) (c2 := 1) (s2 := 200) KX hh (List.mem_of_getElem? (i := 4) rfl) 0 rfl (by decide) rfl (Nat.le_of_ble_eq_true rfl) rfl rfl ⟨Nat.le_of_ble_eq_true rfl, Nat.le_of_ble_eq_true rfl⟩ dX5_init_8 (fun z1 H hh => ?_)
  have hh : HS D A s.heap [(h, .inr (5, [.null, .int 0, .null, .int 0, .int 0, .int 0])), (z1, .inl (cI, 200, .inl (fun _ => 0)))] H _ := hh
  refine g_putF KX hin hh in_X5_init_X5 tyX5 tyX5_ok nmX5 0 rfl rfl 0 (by decide) rfl rfl rfl rfl (Nat.le_of_ble_eq_true rfl) (List.mem_of_getElem? (i := 5) rfl) (w' := [(h, .inr (5, [.ref z1, .int 0, .null, .int 0, .int 0, .int 0])), (z1, .inl (cI, 200, .inl (fun _ => 0)))]) rfl rfl dX5_init_10 (fun H locs hh => ?_)
  refine lv_aload_n hx hb dX5_init_13 rfl (lv_at hl 0 rfl) ?_
  refine lv_iconst (v := 0) hx hb dX5_init_14 (by decide) ?_
  refine g_put KX hh in_X5_init_X5 tyX5 tyX5_ok nmX5 0 rfl rfl 1 (by decide) rfl rfl rfl (Nat.le_of_ble_eq_true rfl) (List.mem_of_getElem? (i := 6) rfl) (w' := [(h, .inr (5, [.ref z1, .int 0, .null, .int 0, .int 0, .int 0])), (z1, .inl (cI, 200, .inl (fun _ => 0)))]) rfl rfl dX5_init_15 (fun H locs hh => ?_)
  refine lv_aload_n hx hb dX5_init_18 rfl (lv_at hl 0 rfl) ?_
  refine lv_bipush (v := 48) hx hb dX5_init_19 (by decide) ?_
  refine g_newi (cI := cI) (c2 := 2) (s2 := 248) KX hh (List.mem_of_getElem? (i := 4) rfl) 0 rfl (by decide) rfl (Nat.le_of_ble_eq_true rfl) rfl rfl ⟨Nat.le_of_ble_eq_true rfl, Nat.le_of_ble_eq_true rfl⟩ dX5_init_21 (fun z2 H hh => ?_)
  have hh : HS D A s.heap [(h, .inr (5, [.ref z1, .int 0, .null, .int 0, .int 0, .int 0])), (z1, .inl (cI, 200, .inl (fun _ => 0))), (z2, .inl (cI, 48, .inl (fun _ => 0)))] H _ := hh
  refine g_putF KX hin hh in_X5_init_X5 tyX5 tyX5_ok nmX5 0 rfl rfl 2 (by decide) rfl rfl rfl rfl (Nat.le_of_ble_eq_true rfl) (List.mem_of_getElem? (i := 7) rfl) (w' := [(h, .inr (5, [.ref z1, .int 0, .ref z2, .int 0, .int 0, .int 0])), (z1, .inl (cI, 200, .inl (fun _ => 0))), (z2, .inl (cI, 48, .inl (fun _ => 0)))]) rfl rfl dX5_init_23 (fun H locs hh => ?_)
  refine lv_aload_n hx hb dX5_init_26 rfl (lv_at hl 0 rfl) ?_
  refine lv_iconst (v := 0) hx hb dX5_init_27 (by decide) ?_
  refine g_put KX hh in_X5_init_X5 tyX5 tyX5_ok nmX5 0 rfl rfl 3 (by decide) rfl rfl rfl (Nat.le_of_ble_eq_true rfl) (List.mem_of_getElem? (i := 8) rfl) (w' := [(h, .inr (5, [.ref z1, .int 0, .ref z2, .int 0, .int 0, .int 0])), (z1, .inl (cI, 200, .inl (fun _ => 0))), (z2, .inl (cI, 48, .inl (fun _ => 0)))]) rfl rfl dX5_init_28 (fun H locs hh => ?_)
  refine lv_aload_n hx hb dX5_init_31 rfl (lv_at hl 0 rfl) ?_
  refine lv_iconst (v := 0) hx hb dX5_init_32 (by decide) ?_
  refine g_put KX hh in_X5_init_X5 tyX5 tyX5_ok nmX5 0 rfl rfl 4 (by decide) rfl rfl rfl (Nat.le_of_ble_eq_true rfl) (List.mem_of_getElem? (i := 9) rfl) (w' := [(h, .inr (5, [.ref z1, .int 0, .ref z2, .int 0, .int 0, .int 0])), (z1, .inl (cI, 200, .inl (fun _ => 0))), (z2, .inl (cI, 48, .inl (fun _ => 0)))]) rfl rfl dX5_init_33 (fun H locs hh => ?_)
  refine lv_aload_n hx hb dX5_init_36 rfl (lv_at hl 0 rfl) ?_
  refine lv_iconst (v := 0) hx hb dX5_init_37 (by decide) ?_
  refine g_put KX hh in_X5_init_X5 tyX5 tyX5_ok nmX5 0 rfl rfl 5 (by decide) rfl rfl rfl (Nat.le_of_ble_eq_true rfl) (List.mem_of_getElem? (i := 10) rfl) (w' := [(h, .inr (5, [.ref z1, .int 0, .ref z2, .int 0, .int 0, .int 0])), (z1, .inl (cI, 200, .inl (fun _ => 0))), (z2, .inl (cI, 48, .inl (fun _ => 0)))]) rfl rfl dX5_init_38 (fun H locs hh => ?_)
  exact RT (fun i => [z1, z2].getD i 0) _ _ _ _ hh dX5_init_41
