section
/-- a private method of a class that the tables say can be made, by its rows of tables_1 -/
def lw_okq (q : MethodName × Nat) : Prop := (q.1.cls ≠ "java/lang/invoke/MethodHandle" ∧ q.1.cls ≠ "java/lang/invoke/VarHandle") ∧ Cond.instantiable q.1.cls q.2 ∈ tables_1 ∧ Cond.privateMethod q.1 ∈ tables_1 ∧ Cond.instanceMethod q.1 ∈ tables_1
theorem lw_p0 : lw_okq (⟨"WrongClocks", "sift", "()V"⟩, 9) := ⟨⟨by decide +kernel, by decide +kernel⟩, List.mem_of_getElem? (i := 17) (by decide +kernel), List.mem_of_getElem? (i := 410) (by decide +kernel), List.mem_of_getElem? (i := 411) (by decide +kernel)⟩
theorem lw_p1 : lw_okq (⟨"WrongClocks", "mostLeftBy", "(LWrongClocks$Clock;)I"⟩, 9) := ⟨⟨by decide +kernel, by decide +kernel⟩, List.mem_of_getElem? (i := 17) (by decide +kernel), List.mem_of_getElem? (i := 443) (by decide +kernel), List.mem_of_getElem? (i := 444) (by decide +kernel)⟩
theorem lw_p2 : lw_okq (⟨"WrongClocks", "canMeet", "(I)Z"⟩, 9) := ⟨⟨by decide +kernel, by decide +kernel⟩, List.mem_of_getElem? (i := 17) (by decide +kernel), List.mem_of_getElem? (i := 481) (by decide +kernel), List.mem_of_getElem? (i := 482) (by decide +kernel)⟩
theorem lw_p3 : lw_okq (⟨"WrongClocksModel", "isText", "()Z"⟩, 26) := ⟨⟨by decide +kernel, by decide +kernel⟩, List.mem_of_getElem? (i := 607) (by decide +kernel), List.mem_of_getElem? (i := 709) (by decide +kernel), List.mem_of_getElem? (i := 710) (by decide +kernel)⟩
theorem lw_p4 : lw_okq (⟨"WrongClocksModel", "isLine", "(I)Z"⟩, 26) := ⟨⟨by decide +kernel, by decide +kernel⟩, List.mem_of_getElem? (i := 607) (by decide +kernel), List.mem_of_getElem? (i := 713) (by decide +kernel), List.mem_of_getElem? (i := 714) (by decide +kernel)⟩
theorem lw_p5 : lw_okq (⟨"WrongClocksModel", "nextToken", "()V"⟩, 26) := ⟨⟨by decide +kernel, by decide +kernel⟩, List.mem_of_getElem? (i := 607) (by decide +kernel), List.mem_of_getElem? (i := 717) (by decide +kernel), List.mem_of_getElem? (i := 718) (by decide +kernel)⟩
theorem lw_p6 : lw_okq (⟨"WrongClocksModel", "isGoing", "(I)Z"⟩, 26) := ⟨⟨by decide +kernel, by decide +kernel⟩, List.mem_of_getElem? (i := 607) (by decide +kernel), List.mem_of_getElem? (i := 733) (by decide +kernel), List.mem_of_getElem? (i := 734) (by decide +kernel)⟩
theorem lw_p7 : lw_okq (⟨"WrongClocksModel", "isNumber", "(III)Z"⟩, 26) := ⟨⟨by decide +kernel, by decide +kernel⟩, List.mem_of_getElem? (i := 607) (by decide +kernel), List.mem_of_getElem? (i := 737) (by decide +kernel), List.mem_of_getElem? (i := 738) (by decide +kernel)⟩
theorem lw_p8 : lw_okq (⟨"WrongClocksModel", "fails", "()Z"⟩, 26) := ⟨⟨by decide +kernel, by decide +kernel⟩, List.mem_of_getElem? (i := 607) (by decide +kernel), List.mem_of_getElem? (i := 741) (by decide +kernel), List.mem_of_getElem? (i := 742) (by decide +kernel)⟩
theorem lw_p9 : lw_okq (⟨"WrongClocksModel", "isStopped", "(I)Z"⟩, 26) := ⟨⟨by decide +kernel, by decide +kernel⟩, List.mem_of_getElem? (i := 607) (by decide +kernel), List.mem_of_getElem? (i := 745) (by decide +kernel), List.mem_of_getElem? (i := 746) (by decide +kernel)⟩
theorem lw_p10 : lw_okq (⟨"WrongClocksModel", "isGone", "(I)Z"⟩, 26) := ⟨⟨by decide +kernel, by decide +kernel⟩, List.mem_of_getElem? (i := 607) (by decide +kernel), List.mem_of_getElem? (i := 749) (by decide +kernel), List.mem_of_getElem? (i := 750) (by decide +kernel)⟩
theorem lw_p11 : lw_okq (⟨"WrongClocksModel", "isNow", "(I)Z"⟩, 26) := ⟨⟨by decide +kernel, by decide +kernel⟩, List.mem_of_getElem? (i := 607) (by decide +kernel), List.mem_of_getElem? (i := 753) (by decide +kernel), List.mem_of_getElem? (i := 754) (by decide +kernel)⟩
theorem lw_p12 : lw_okq (⟨"WrongClocksModel", "doLine", "(I)V"⟩, 26) := ⟨⟨by decide +kernel, by decide +kernel⟩, List.mem_of_getElem? (i := 607) (by decide +kernel), List.mem_of_getElem? (i := 764) (by decide +kernel), List.mem_of_getElem? (i := 765) (by decide +kernel)⟩
theorem lw_p13 : lw_okq (⟨"WrongClocksModel", "isClock", "(I)Z"⟩, 26) := ⟨⟨by decide +kernel, by decide +kernel⟩, List.mem_of_getElem? (i := 607) (by decide +kernel), List.mem_of_getElem? (i := 772) (by decide +kernel), List.mem_of_getElem? (i := 773) (by decide +kernel)⟩
theorem lw_p14 : lw_okq (⟨"WrongClocksModel", "hand", "(III)I"⟩, 26) := ⟨⟨by decide +kernel, by decide +kernel⟩, List.mem_of_getElem? (i := 607) (by decide +kernel), List.mem_of_getElem? (i := 783) (by decide +kernel), List.mem_of_getElem? (i := 784) (by decide +kernel)⟩
theorem lw_p15 : lw_okq (⟨"WrongClocksModel", "canShow", "(III)Z"⟩, 26) := ⟨⟨by decide +kernel, by decide +kernel⟩, List.mem_of_getElem? (i := 607) (by decide +kernel), List.mem_of_getElem? (i := 797) (by decide +kernel), List.mem_of_getElem? (i := 798) (by decide +kernel)⟩
def lw_privs_1 : List (MethodName × Nat) := [(⟨"WrongClocks", "sift", "()V"⟩, 9), (⟨"WrongClocks", "mostLeftBy", "(LWrongClocks$Clock;)I"⟩, 9), (⟨"WrongClocks", "canMeet", "(I)Z"⟩, 9), (⟨"WrongClocksModel", "isText", "()Z"⟩, 26), (⟨"WrongClocksModel", "isLine", "(I)Z"⟩, 26), (⟨"WrongClocksModel", "nextToken", "()V"⟩, 26), (⟨"WrongClocksModel", "isGoing", "(I)Z"⟩, 26), (⟨"WrongClocksModel", "isNumber", "(III)Z"⟩, 26), (⟨"WrongClocksModel", "fails", "()Z"⟩, 26), (⟨"WrongClocksModel", "isStopped", "(I)Z"⟩, 26), (⟨"WrongClocksModel", "isGone", "(I)Z"⟩, 26), (⟨"WrongClocksModel", "isNow", "(I)Z"⟩, 26), (⟨"WrongClocksModel", "doLine", "(I)V"⟩, 26), (⟨"WrongClocksModel", "isClock", "(I)Z"⟩, 26), (⟨"WrongClocksModel", "hand", "(III)I"⟩, 26), (⟨"WrongClocksModel", "canShow", "(III)Z"⟩, 26)]
theorem lw_r1 : ∀ q ∈ lw_privs_1, lw_okq q := List.forall_mem_cons.mpr ⟨lw_p0, List.forall_mem_cons.mpr ⟨lw_p1, List.forall_mem_cons.mpr ⟨lw_p2, List.forall_mem_cons.mpr ⟨lw_p3, List.forall_mem_cons.mpr ⟨lw_p4, List.forall_mem_cons.mpr ⟨lw_p5, List.forall_mem_cons.mpr ⟨lw_p6, List.forall_mem_cons.mpr ⟨lw_p7, List.forall_mem_cons.mpr ⟨lw_p8, List.forall_mem_cons.mpr ⟨lw_p9, List.forall_mem_cons.mpr ⟨lw_p10, List.forall_mem_cons.mpr ⟨lw_p11, List.forall_mem_cons.mpr ⟨lw_p12, List.forall_mem_cons.mpr ⟨lw_p13, List.forall_mem_cons.mpr ⟨lw_p14, List.forall_mem_cons.mpr ⟨lw_p15, fun _ h => absurd h List.not_mem_nil⟩⟩⟩⟩⟩⟩⟩⟩⟩⟩⟩⟩⟩⟩⟩⟩
theorem lw_p16 : lw_okq (⟨"WrongClocksModel", "fitAt", "(I)I"⟩, 26) := ⟨⟨by decide +kernel, by decide +kernel⟩, List.mem_of_getElem? (i := 607) (by decide +kernel), List.mem_of_getElem? (i := 808) (by decide +kernel), List.mem_of_getElem? (i := 809) (by decide +kernel)⟩
theorem lw_p17 : lw_okq (⟨"WrongClocksModel", "layFits", "()V"⟩, 26) := ⟨⟨by decide +kernel, by decide +kernel⟩, List.mem_of_getElem? (i := 607) (by decide +kernel), List.mem_of_getElem? (i := 816) (by decide +kernel), List.mem_of_getElem? (i := 817) (by decide +kernel)⟩
theorem lw_p18 : lw_okq (⟨"WrongClocksModel", "isExact", "(I)Z"⟩, 26) := ⟨⟨by decide +kernel, by decide +kernel⟩, List.mem_of_getElem? (i := 607) (by decide +kernel), List.mem_of_getElem? (i := 831) (by decide +kernel), List.mem_of_getElem? (i := 832) (by decide +kernel)⟩
theorem lw_p19 : lw_okq (⟨"WrongClocksModel", "isNoted", "(II)Z"⟩, 26) := ⟨⟨by decide +kernel, by decide +kernel⟩, List.mem_of_getElem? (i := 607) (by decide +kernel), List.mem_of_getElem? (i := 847) (by decide +kernel), List.mem_of_getElem? (i := 848) (by decide +kernel)⟩
theorem lw_p20 : lw_okq (⟨"WrongClocksModel", "isFirstAgain", "(III)Z"⟩, 26) := ⟨⟨by decide +kernel, by decide +kernel⟩, List.mem_of_getElem? (i := 607) (by decide +kernel), List.mem_of_getElem? (i := 858) (by decide +kernel), List.mem_of_getElem? (i := 859) (by decide +kernel)⟩
theorem lw_p21 : lw_okq (⟨"WrongClocksModel", "isAgain", "(II)Z"⟩, 26) := ⟨⟨by decide +kernel, by decide +kernel⟩, List.mem_of_getElem? (i := 607) (by decide +kernel), List.mem_of_getElem? (i := 865) (by decide +kernel), List.mem_of_getElem? (i := 866) (by decide +kernel)⟩
theorem lw_p22 : lw_okq (⟨"WrongClocksModel", "toWhole", "(II)I"⟩, 26) := ⟨⟨by decide +kernel, by decide +kernel⟩, List.mem_of_getElem? (i := 607) (by decide +kernel), List.mem_of_getElem? (i := 883) (by decide +kernel), List.mem_of_getElem? (i := 884) (by decide +kernel)⟩
theorem lw_p23 : lw_okq (⟨"WrongClocksModel", "take", "()V"⟩, 26) := ⟨⟨by decide +kernel, by decide +kernel⟩, List.mem_of_getElem? (i := 607) (by decide +kernel), List.mem_of_getElem? (i := 892) (by decide +kernel), List.mem_of_getElem? (i := 893) (by decide +kernel)⟩
theorem lw_p24 : lw_okq (⟨"WrongClocksModel", "greatest", "()I"⟩, 26) := ⟨⟨by decide +kernel, by decide +kernel⟩, List.mem_of_getElem? (i := 607) (by decide +kernel), List.mem_of_getElem? (i := 896) (by decide +kernel), List.mem_of_getElem? (i := 897) (by decide +kernel)⟩
theorem lw_p25 : lw_okq (⟨"WrongClocksModel", "nextRow", "()Z"⟩, 26) := ⟨⟨by decide +kernel, by decide +kernel⟩, List.mem_of_getElem? (i := 607) (by decide +kernel), List.mem_of_getElem? (i := 900) (by decide +kernel), List.mem_of_getElem? (i := 901) (by decide +kernel)⟩
def lw_privs_2 : List (MethodName × Nat) := [(⟨"WrongClocksModel", "fitAt", "(I)I"⟩, 26), (⟨"WrongClocksModel", "layFits", "()V"⟩, 26), (⟨"WrongClocksModel", "isExact", "(I)Z"⟩, 26), (⟨"WrongClocksModel", "isNoted", "(II)Z"⟩, 26), (⟨"WrongClocksModel", "isFirstAgain", "(III)Z"⟩, 26), (⟨"WrongClocksModel", "isAgain", "(II)Z"⟩, 26), (⟨"WrongClocksModel", "toWhole", "(II)I"⟩, 26), (⟨"WrongClocksModel", "take", "()V"⟩, 26), (⟨"WrongClocksModel", "greatest", "()I"⟩, 26), (⟨"WrongClocksModel", "nextRow", "()Z"⟩, 26)]
theorem lw_r2 : ∀ q ∈ lw_privs_2, lw_okq q := List.forall_mem_cons.mpr ⟨lw_p16, List.forall_mem_cons.mpr ⟨lw_p17, List.forall_mem_cons.mpr ⟨lw_p18, List.forall_mem_cons.mpr ⟨lw_p19, List.forall_mem_cons.mpr ⟨lw_p20, List.forall_mem_cons.mpr ⟨lw_p21, List.forall_mem_cons.mpr ⟨lw_p22, List.forall_mem_cons.mpr ⟨lw_p23, List.forall_mem_cons.mpr ⟨lw_p24, List.forall_mem_cons.mpr ⟨lw_p25, fun _ h => absurd h List.not_mem_nil⟩⟩⟩⟩⟩⟩⟩⟩⟩⟩
def lw_privs : List (MethodName × Nat) := lw_privs_1 ++ (lw_privs_2)
def lw_tbl : List Cond := k2_sels lw_privs ++ tables_1
theorem lw_privs_ok : ∀ q ∈ lw_privs, lw_okq q := by
  show ∀ q ∈ lw_privs_1 ++ (lw_privs_2), lw_okq q
  exact List.forall_mem_append.mpr ⟨lw_r1, lw_r2⟩
/-! ===== BEGIN words of one list among another's, by their places ===== -/
theorem goodIn_r {big : List Cond} (ws : List Cond) (ps : List Nat) (hp : ws = ps.filterMap (fun i => big[i]?)) (h : ws.all goodWord = true) : GoodIn big ws := by
  intro w hw
  have h1 := List.all_eq_true.mp h w hw
  rw [hp] at hw
  obtain ⟨i, -, hi⟩ := List.mem_filterMap.mp hw
  have hm : w ∈ big := by first | exact List.mem_of_getElem? hi | exact List.getElem?_mem hi
  exact ⟨hm, good_of_word h1⟩
theorem goodIn_app {big a b : List Cond} (ha : GoodIn big a) (hb : GoodIn big b) : GoodIn big (a ++ b) := fun w h => (List.mem_append.mp h).elim (ha w) (hb w)
theorem goodIn_ca {big a b : List Cond} {c : Cond} (ha : GoodIn big (c :: a)) (hb : GoodIn big b) : GoodIn big (c :: (a ++ b)) := fun w h => (List.mem_cons.mp h).elim (fun e => ha w (List.mem_cons.mpr (Or.inl e))) (fun h => (List.mem_append.mp h).elim (fun h => ha w (List.mem_cons.mpr (Or.inr h))) (hb w))
theorem goodIn_sub {big ws : List Cond} (hm : ∀ w ∈ ws, w ∈ big) (h : ws.all goodWord = true) : GoodIn big ws := fun w hw => ⟨hm w hw, good_of_word (List.all_eq_true.mp h w hw)⟩
/-! ===== END ===== -/

/-! ===== BEGIN printed: names, fields, word lists, decode rows ===== -/
def RX0 : String := "WrongClocks$Clock"
def TX0 : u_T := fun k => match k with
  | 0 => ("WrongClocks$Clock", "kind", "I", false)
  | 1 => ("WrongClocks$Clock", "set", "I", false)
  | 2 => ("WrongClocks$Clock", "dial", "I", false)
  | 3 => ("WrongClocks$Clock", "low", "I", false)
  | 4 => ("WrongClocks$Clock", "high", "I", false)
  | _ => ("WrongClocks$Clock", "read", "I", false)
def tyX0 : Nat → FieldType := fun k => match k with
  | 0 => .int
  | 1 => .int
  | 2 => .int
  | 3 => .int
  | 4 => .int
  | _ => .int
abbrev wsX00 : List Cond := u_ws RX0 TX0 6
theorem nmX0 : ∀ a, a < 6 → ∀ b, b < 6 → a ≠ b → (TX0 a).2.1 ≠ (TX0 b).2.1 := by decide +kernel
theorem tyX0_ok : ∀ k, k < 6 → parseFieldDescriptor (TX0 k).2.2.1 = some (tyX0 k) := by decide +kernel
abbrev cX0_init : ByteArray := prog_2_method_1_code
def yX0_init : MethodName := ⟨RX0, "<init>", "()V"⟩
abbrev cX0_tell : ByteArray := prog_2_method_2_code
def yX0_tell : MethodName := ⟨RX0, "tell", "(IIIII)V"⟩
abbrev cX0_copy : ByteArray := prog_2_method_3_code
def yX0_copy : MethodName := ⟨RX0, "copy", "(LWrongClocks$Clock;)V"⟩
abbrev cX0_runsByOneRate : ByteArray := prog_2_method_4_code
def yX0_runsByOneRate : MethodName := ⟨RX0, "runsByOneRate", "()Z"⟩
abbrev cX0_way : ByteArray := prog_2_method_5_code
def yX0_way : MethodName := ⟨RX0, "way", "(II)I"⟩
abbrev cX0_handAt : ByteArray := prog_2_method_6_code
def yX0_handAt : MethodName := ⟨RX0, "handAt", "(II)I"⟩
abbrev cX0_dialAt : ByteArray := prog_2_method_7_code
def yX0_dialAt : MethodName := ⟨RX0, "dialAt", "(II)I"⟩
abbrev cX0_canShow : ByteArray := prog_2_method_8_code
def yX0_canShow : MethodName := ⟨RX0, "canShow", "(II)Z"⟩
abbrev cX0_partsToWholeMinute : ByteArray := prog_2_method_9_code
def yX0_partsToWholeMinute : MethodName := ⟨RX0, "partsToWholeMinute", "(I)I"⟩
def RX1 : String := "WrongClocks$House"
def TX1 : u_T := fun k => match k with
  | 0 => ("WrongClocks$House", "filled", "Z", false)
  | 1 => ("WrongClocks$House", "clocks", "[LWrongClocks$Clock;", true)
  | _ => ("WrongClocks$House", "notes", "LWrongClocks$Notes;", true)
def tyX1 : Nat → FieldType := fun k => match k with
  | 0 => .boolean
  | 1 => .array (.object "WrongClocks$Clock")
  | _ => .object "WrongClocks$Notes"
abbrev wsX10 : List Cond := u_ws RX1 TX1 3
theorem nmX1 : ∀ a, a < 3 → ∀ b, b < 3 → a ≠ b → (TX1 a).2.1 ≠ (TX1 b).2.1 := by decide +kernel
theorem tyX1_ok : ∀ k, k < 3 → parseFieldDescriptor (TX1 k).2.2.1 = some (tyX1 k) := by decide +kernel
abbrev cX1_init : ByteArray := prog_3_method_1_code
def yX1_init : MethodName := ⟨RX1, "<init>", "()V"⟩
abbrev cX1_copy : ByteArray := prog_3_method_2_code
def yX1_copy : MethodName := ⟨RX1, "copy", "(LWrongClocks$House;)V"⟩
abbrev cX1_toldClock : ByteArray := prog_3_method_3_code
def yX1_toldClock : MethodName := ⟨RX1, "toldClock", "(I)LWrongClocks$Clock;"⟩
abbrev cX1_toldBits : ByteArray := prog_3_method_4_code
def yX1_toldBits : MethodName := ⟨RX1, "toldBits", "()I"⟩
abbrev cX1_readBits : ByteArray := prog_3_method_5_code
def yX1_readBits : MethodName := ⟨RX1, "readBits", "()I"⟩
abbrev cX1_misfitsAt : ByteArray := prog_3_method_6_code
def yX1_misfitsAt : MethodName := ⟨RX1, "misfitsAt", "(I)I"⟩
abbrev cX1_heed : ByteArray := prog_3_method_7_code
def yX1_heed : MethodName := ⟨RX1, "heed", "(LWrongClocks$Text;I)V"⟩
abbrev cX1_readNone : ByteArray := prog_3_method_8_code
def yX1_readNone : MethodName := ⟨RX1, "readNone", "()V"⟩
def RX2 : String := "WrongClocks$Notes"
def TX2 : u_T := fun k => match k with
  | 0 => ("WrongClocks$Notes", "many", "I", false)
  | 1 => ("WrongClocks$Notes", "clocks", "[I", true)
  | 2 => ("WrongClocks$Notes", "minutes", "[I", true)
  | _ => ("WrongClocks$Notes", "dials", "[I", true)
def tyX2 : Nat → FieldType := fun k => match k with
  | 0 => .int
  | 1 => .array .int
  | 2 => .array .int
  | _ => .array .int
abbrev wsX20 : List Cond := u_ws RX2 TX2 4
theorem nmX2 : ∀ a, a < 4 → ∀ b, b < 4 → a ≠ b → (TX2 a).2.1 ≠ (TX2 b).2.1 := by decide +kernel
theorem tyX2_ok : ∀ k, k < 4 → parseFieldDescriptor (TX2 k).2.2.1 = some (tyX2 k) := by decide +kernel
abbrev cX2_init : ByteArray := prog_4_method_1_code
def yX2_init : MethodName := ⟨RX2, "<init>", "()V"⟩
abbrev cX2_add : ByteArray := prog_4_method_2_code
def yX2_add : MethodName := ⟨RX2, "add", "(III)Z"⟩
abbrev cX2_copy : ByteArray := prog_4_method_3_code
def yX2_copy : MethodName := ⟨RX2, "copy", "(LWrongClocks$Notes;)V"⟩
abbrev cX2_allow : ByteArray := prog_4_method_4_code
def yX2_allow : MethodName := ⟨RX2, "allow", "(ILWrongClocks$Clock;I)Z"⟩
def RX3 : String := "WrongClocks$Queue"
def TX3 : u_T := fun k => match k with
  | 0 => ("WrongClocks$Queue", "many", "I", false)
  | 1 => ("WrongClocks$Queue", "clocks", "[I", true)
  | 2 => ("WrongClocks$Queue", "rates", "[I", true)
  | _ => ("WrongClocks$Queue", "least", "[I", true)
def tyX3 : Nat → FieldType := fun k => match k with
  | 0 => .int
  | 1 => .array .int
  | 2 => .array .int
  | _ => .array .int
abbrev wsX30 : List Cond := u_ws RX3 TX3 4
theorem nmX3 : ∀ a, a < 4 → ∀ b, b < 4 → a ≠ b → (TX3 a).2.1 ≠ (TX3 b).2.1 := by decide +kernel
theorem tyX3_ok : ∀ k, k < 4 → parseFieldDescriptor (TX3 k).2.2.1 = some (tyX3 k) := by decide +kernel
abbrev cX3_init : ByteArray := prog_5_method_1_code
def yX3_init : MethodName := ⟨RX3, "<init>", "()V"⟩
abbrev cX3_clear : ByteArray := prog_5_method_2_code
def yX3_clear : MethodName := ⟨RX3, "clear", "()V"⟩
abbrev cX3_add : ByteArray := prog_5_method_3_code
def yX3_add : MethodName := ⟨RX3, "add", "(II)V"⟩
abbrev cX3_weigh : ByteArray := prog_5_method_4_code
def yX3_weigh : MethodName := ⟨RX3, "weigh", "()V"⟩
abbrev cX3_errorBehind : ByteArray := prog_5_method_5_code
def yX3_errorBehind : MethodName := ⟨RX3, "errorBehind", "(I)I"⟩
abbrev cX3_leastBehind : ByteArray := prog_5_method_6_code
def yX3_leastBehind : MethodName := ⟨RX3, "leastBehind", "(I)I"⟩
abbrev cX3_leastError : ByteArray := prog_5_method_7_code
def yX3_leastError : MethodName := ⟨RX3, "leastError", "()I"⟩
abbrev cX3_clockAt : ByteArray := prog_5_method_8_code
def yX3_clockAt : MethodName := ⟨RX3, "clockAt", "(I)I"⟩
abbrev cX3_firstBehind : ByteArray := prog_5_method_9_code
def yX3_firstBehind : MethodName := ⟨RX3, "firstBehind", "(I)I"⟩
def RX4 : String := "WrongClocks$Tally"
def TX4 : u_T := fun k => match k with
  | 0 => ("WrongClocks$Tally", "many", "I", false)
  | 1 => ("WrongClocks$Tally", "first", "I", false)
  | 2 => ("WrongClocks$Tally", "last", "I", false)
  | _ => ("WrongClocks$Tally", "runs", "I", false)
def tyX4 : Nat → FieldType := fun k => match k with
  | 0 => .int
  | 1 => .int
  | 2 => .int
  | _ => .int
abbrev wsX40 : List Cond := u_ws RX4 TX4 4
theorem nmX4 : ∀ a, a < 4 → ∀ b, b < 4 → a ≠ b → (TX4 a).2.1 ≠ (TX4 b).2.1 := by decide +kernel
theorem tyX4_ok : ∀ k, k < 4 → parseFieldDescriptor (TX4 k).2.2.1 = some (tyX4 k) := by decide +kernel
abbrev cX4_init : ByteArray := prog_6_method_1_code
def yX4_init : MethodName := ⟨RX4, "<init>", "()V"⟩
abbrev cX4_clear : ByteArray := prog_6_method_2_code
def yX4_clear : MethodName := ⟨RX4, "clear", "()V"⟩
abbrev cX4_add : ByteArray := prog_6_method_3_code
def yX4_add : MethodName := ⟨RX4, "add", "(I)V"⟩
abbrev cX4_tell : ByteArray := prog_6_method_4_code
def yX4_tell : MethodName := ⟨RX4, "tell", "(I)I"⟩
def RX5 : String := "WrongClocks$Text"
def TX5 : u_T := fun k => match k with
  | 0 => ("WrongClocks$Text", "bytes", "[I", true)
  | 1 => ("WrongClocks$Text", "length", "I", false)
  | 2 => ("WrongClocks$Text", "rows", "[I", true)
  | 3 => ("WrongClocks$Text", "lineCount", "I", false)
  | 4 => ("WrongClocks$Text", "start", "I", false)
  | _ => ("WrongClocks$Text", "end", "I", false)
def tyX5 : Nat → FieldType := fun k => match k with
  | 0 => .array .int
  | 1 => .int
  | 2 => .array .int
  | 3 => .int
  | 4 => .int
  | _ => .int
abbrev wsX50 : List Cond := u_ws RX5 TX5 6
theorem nmX5 : ∀ a, a < 6 → ∀ b, b < 6 → a ≠ b → (TX5 a).2.1 ≠ (TX5 b).2.1 := by decide +kernel
theorem tyX5_ok : ∀ k, k < 6 → parseFieldDescriptor (TX5 k).2.2.1 = some (tyX5 k) := by decide +kernel
abbrev cX5_init : ByteArray := prog_7_method_1_code
def yX5_init : MethodName := ⟨RX5, "<init>", "()V"⟩
abbrev cX5_put : ByteArray := prog_7_method_2_code
def yX5_put : MethodName := ⟨RX5, "put", "(I)V"⟩
abbrev cX5_number : ByteArray := prog_7_method_3_code
def yX5_number : MethodName := ⟨RX5, "number", "(II)I"⟩
abbrev cX5_findFault : ByteArray := prog_7_method_4_code
def yX5_findFault : MethodName := ⟨RX5, "findFault", "(I)I"⟩
abbrev cX5_takeLine : ByteArray := prog_7_method_5_code
def yX5_takeLine : MethodName := ⟨RX5, "takeLine", "(II)Z"⟩
abbrev cX5_knownBehind : ByteArray := prog_7_method_6_code
def yX5_knownBehind : MethodName := ⟨RX5, "knownBehind", "(II)I"⟩
abbrev cX5_takeToken : ByteArray := prog_7_method_7_code
def yX5_takeToken : MethodName := ⟨RX5, "takeToken", "()V"⟩
abbrev cX5_signAt : ByteArray := prog_7_method_8_code
def yX5_signAt : MethodName := ⟨RX5, "signAt", "(I)I"⟩
abbrev cX5_wordTaken : ByteArray := prog_7_method_9_code
def yX5_wordTaken : MethodName := ⟨RX5, "wordTaken", "()I"⟩
abbrev cX5_isTaken : ByteArray := prog_7_method_10_code
def yX5_isTaken : MethodName := ⟨RX5, "isTaken", "(Ljava/lang/String;)Z"⟩
abbrev cX5_numberTaken : ByteArray := prog_7_method_11_code
def yX5_numberTaken : MethodName := ⟨RX5, "numberTaken", "()I"⟩
abbrev cX5_isLetter : ByteArray := prog_7_method_12_code
def yX5_isLetter : MethodName := ⟨RX5, "isLetter", "(I)Z"⟩
abbrev cX5_isDigit : ByteArray := prog_7_method_13_code
def yX5_isDigit : MethodName := ⟨RX5, "isDigit", "(I)Z"⟩
abbrev cX5_wordOf : ByteArray := prog_7_method_14_code
def yX5_wordOf : MethodName := ⟨RX5, "wordOf", "(I)Ljava/lang/String;"⟩
abbrev cX5_numbersOf : ByteArray := prog_7_method_15_code
def yX5_numbersOf : MethodName := ⟨RX5, "numbersOf", "(I)Ljava/lang/String;"⟩
abbrev cX5_mostOf : ByteArray := prog_7_method_16_code
def yX5_mostOf : MethodName := ⟨RX5, "mostOf", "(C)I"⟩
def RX6 : String := "WrongClocks"
def TX6 : u_T := fun k => match k with
  | 0 => ("WrongClocks", "text", "LWrongClocks$Text;", true)
  | 1 => ("WrongClocks", "present", "LWrongClocks$House;", true)
  | 2 => ("WrongClocks", "kept", "[LWrongClocks$House;", true)
  | 3 => ("WrongClocks", "tally", "LWrongClocks$Tally;", true)
  | 4 => ("WrongClocks", "trial", "LWrongClocks$Clock;", true)
  | 5 => ("WrongClocks", "queue", "LWrongClocks$Queue;", true)
  | 6 => ("WrongClocks", "misfits", "[I", true)
  | 7 => ("WrongClocks", "sifted", "Z", false)
  | _ => ("WrongClocks", "shown", "[I", true)
def tyX6 : Nat → FieldType := fun k => match k with
  | 0 => .object "WrongClocks$Text"
  | 1 => .object "WrongClocks$House"
  | 2 => .array (.object "WrongClocks$House")
  | 3 => .object "WrongClocks$Tally"
  | 4 => .object "WrongClocks$Clock"
  | 5 => .object "WrongClocks$Queue"
  | 6 => .array .int
  | 7 => .boolean
  | _ => .array .int
abbrev wsX60 : List Cond := u_ws RX6 TX6 9
theorem nmX6 : ∀ a, a < 9 → ∀ b, b < 9 → a ≠ b → (TX6 a).2.1 ≠ (TX6 b).2.1 := by decide +kernel
theorem tyX6_ok : ∀ k, k < 9 → parseFieldDescriptor (TX6 k).2.2.1 = some (tyX6 k) := by decide +kernel
abbrev cX6_init : ByteArray := prog_1_method_1_code
def yX6_init : MethodName := ⟨RX6, "<init>", "()V"⟩
abbrev cX6_write : ByteArray := prog_1_method_2_code
def yX6_write : MethodName := ⟨RX6, "write", "(JI)I"⟩
abbrev cX6_erase : ByteArray := prog_1_method_3_code
def yX6_erase : MethodName := ⟨RX6, "erase", "()I"⟩
abbrev cX6_fault : ByteArray := prog_1_method_4_code
def yX6_fault : MethodName := ⟨RX6, "fault", "()I"⟩
abbrev cX6_house : ByteArray := prog_1_method_5_code
def yX6_house : MethodName := ⟨RX6, "house", "()I"⟩
abbrev cX6_clock : ByteArray := prog_1_method_6_code
def yX6_clock : MethodName := ⟨RX6, "clock", "(II)I"⟩
abbrev cX6_shows : ByteArray := prog_1_method_7_code
def yX6_shows : MethodName := ⟨RX6, "shows", "(III)I"⟩
abbrev cX6_can : ByteArray := prog_1_method_8_code
def yX6_can : MethodName := ⟨RX6, "can", "(III)I"⟩
abbrev cX6_fits : ByteArray := prog_1_method_9_code
def yX6_fits : MethodName := ⟨RX6, "fits", "(I)I"⟩
abbrev cX6_times : ByteArray := prog_1_method_10_code
def yX6_times : MethodName := ⟨RX6, "times", "(I)I"⟩
abbrev cX6_liars : ByteArray := prog_1_method_11_code
def yX6_liars : MethodName := ⟨RX6, "liars", "(I)I"⟩
abbrev cX6_next : ByteArray := prog_1_method_12_code
def yX6_next : MethodName := ⟨RX6, "next", "(I)I"⟩
abbrev cX6_sift : ByteArray := prog_1_method_13_code
def yX6_sift : MethodName := ⟨RX6, "sift", "()V"⟩
abbrev cX6_isLess : ByteArray := prog_1_method_14_code
def yX6_isLess : MethodName := ⟨RX6, "isLess", "(II)Z"⟩
abbrev cX6_mostLeftBy : ByteArray := prog_1_method_15_code
def yX6_mostLeftBy : MethodName := ⟨RX6, "mostLeftBy", "(LWrongClocks$Clock;)I"⟩
abbrev cX6_note : ByteArray := prog_1_method_16_code
def yX6_note : MethodName := ⟨RX6, "note", "(III)I"⟩
abbrev cX6_burn : ByteArray := prog_1_method_17_code
def yX6_burn : MethodName := ⟨RX6, "burn", "()I"⟩
abbrev cX6_rates : ByteArray := prog_1_method_18_code
def yX6_rates : MethodName := ⟨RX6, "rates", "(II)I"⟩
abbrev cX6_again : ByteArray := prog_1_method_19_code
def yX6_again : MethodName := ⟨RX6, "again", "(II)I"⟩
abbrev cX6_canMeet : ByteArray := prog_1_method_20_code
def yX6_canMeet : MethodName := ⟨RX6, "canMeet", "(I)Z"⟩
abbrev cX6_leastFactor : ByteArray := prog_1_method_21_code
def yX6_leastFactor : MethodName := ⟨RX6, "leastFactor", "(JJ)J"⟩
abbrev cX6_sharedWithRound : ByteArray := prog_1_method_22_code
def yX6_sharedWithRound : MethodName := ⟨RX6, "sharedWithRound", "(J)J"⟩
abbrev cX6_inverse : ByteArray := prog_1_method_23_code
def yX6_inverse : MethodName := ⟨RX6, "inverse", "(JJ)J"⟩
abbrev cX6_commonDivisor : ByteArray := prog_1_method_24_code
def yX6_commonDivisor : MethodName := ⟨RX6, "commonDivisor", "(JJ)J"⟩
abbrev cX6_stopped : ByteArray := prog_1_method_25_code
def yX6_stopped : MethodName := ⟨RX6, "stopped", "(III)I"⟩
abbrev cX6_setBy : ByteArray := prog_1_method_26_code
def yX6_setBy : MethodName := ⟨RX6, "setBy", "(IIII)I"⟩
abbrev cX6_egg : ByteArray := prog_1_method_27_code
def yX6_egg : MethodName := ⟨RX6, "egg", "(IIIII)J"⟩
abbrev cX6_leastOff : ByteArray := prog_1_method_28_code
def yX6_leastOff : MethodName := ⟨RX6, "leastOff", "(LWrongClocks$Clock;LWrongClocks$Clock;IJ)J"⟩
abbrev cX6_order : ByteArray := prog_1_method_29_code
def yX6_order : MethodName := ⟨RX6, "order", "(I)I"⟩
abbrev cX6_keep : ByteArray := prog_1_method_30_code
def yX6_keep : MethodName := ⟨RX6, "keep", "(I)I"⟩
abbrev cX6_back : ByteArray := prog_1_method_31_code
def yX6_back : MethodName := ⟨RX6, "back", "(I)I"⟩
abbrev cX6_count : ByteArray := prog_1_method_32_code
def yX6_count : MethodName := ⟨RX6, "count", "(I)I"⟩
abbrev cX6_isBelow : ByteArray := prog_1_method_33_code
def yX6_isBelow : MethodName := ⟨RX6, "isBelow", "(II)Z"⟩
def RX7 : String := "WrongClocksModel"
def TX7 : u_T := fun k => match k with
  | 0 => ("WrongClocksModel", "told", "I", false)
  | 1 => ("WrongClocksModel", "isRead1", "I", false)
  | 2 => ("WrongClocksModel", "clock", "[I", true)
  | 3 => ("WrongClocksModel", "note", "[I", true)
  | 4 => ("WrongClocksModel", "noted", "I", false)
  | 5 => ("WrongClocksModel", "bytes", "I", false)
  | 6 => ("WrongClocksModel", "text", "[I", true)
  | 7 => ("WrongClocksModel", "position", "I", false)
  | 8 => ("WrongClocksModel", "tokenAt", "I", false)
  | 9 => ("WrongClocksModel", "token", "J", false)
  | 10 => ("WrongClocksModel", "digits", "I", false)
  | 11 => ("WrongClocksModel", "number", "I", false)
  | 12 => ("WrongClocksModel", "faultAt", "I", false)
  | 13 => ("WrongClocksModel", "readMany", "I", false)
  | 14 => ("WrongClocksModel", "readTold", "I", false)
  | 15 => ("WrongClocksModel", "read", "[I", true)
  | 16 => ("WrongClocksModel", "fit", "[I", true)
  | 17 => ("WrongClocksModel", "shown", "[I", true)
  | 18 => ("WrongClocksModel", "image", "[I", true)
  | 19 => ("WrongClocksModel", "isKept", "[Z", true)
  | 20 => ("WrongClocksModel", "row", "[I", true)
  | 21 => ("WrongClocksModel", "best", "[I", true)
  | 22 => ("WrongClocksModel", "againAt", "I", false)
  | 23 => ("WrongClocksModel", "againStep", "I", false)
  | 24 => ("WrongClocksModel", "orderMany", "I", false)
  | _ => ("WrongClocksModel", "orderLeast", "I", false)
def tyX7 : Nat → FieldType := fun k => match k with
  | 0 => .int
  | 1 => .int
  | 2 => .array .int
  | 3 => .array .int
  | 4 => .int
  | 5 => .int
  | 6 => .array .int
  | 7 => .int
  | 8 => .int
  | 9 => .long
  | 10 => .int
  | 11 => .int
  | 12 => .int
  | 13 => .int
  | 14 => .int
  | 15 => .array .int
  | 16 => .array .int
  | 17 => .array .int
  | 18 => .array .int
  | 19 => .array .boolean
  | 20 => .array .int
  | 21 => .array .int
  | 22 => .int
  | 23 => .int
  | 24 => .int
  | _ => .int
abbrev wsX70 : List Cond := u_ws RX7 TX7 26
theorem nmX7 : ∀ a, a < 26 → ∀ b, b < 26 → a ≠ b → (TX7 a).2.1 ≠ (TX7 b).2.1 := by decide +kernel
theorem tyX7_ok : ∀ k, k < 26 → parseFieldDescriptor (TX7 k).2.2.1 = some (tyX7 k) := by decide +kernel
abbrev cX7_init : ByteArray := prog_9_method_1_code
def yX7_init : MethodName := ⟨RX7, "<init>", "()V"⟩
abbrev cX7_in : ByteArray := prog_9_method_2_code
def yX7_in : MethodName := ⟨RX7, "in", "(III)Z"⟩
abbrev cX7_has : ByteArray := prog_9_method_3_code
def yX7_has : MethodName := ⟨RX7, "has", "(II)Z"⟩
abbrev cX7_bits : ByteArray := prog_9_method_4_code
def yX7_bits : MethodName := ⟨RX7, "bits", "(I)I"⟩
abbrev cX7_isClock : ByteArray := prog_9_method_5_code
def yX7_isClock : MethodName := ⟨RX7, "isClock", "(I)Z"⟩
abbrev cX7_write : ByteArray := prog_9_method_6_code
def yX7_write : MethodName := ⟨RX7, "write", "(JI)I"⟩
abbrev cX7_erase : ByteArray := prog_9_method_7_code
def yX7_erase : MethodName := ⟨RX7, "erase", "()I"⟩
abbrev cX7_nextToken : ByteArray := prog_9_method_8_code
def yX7_nextToken : MethodName := ⟨RX7, "nextToken", "()V"⟩
abbrev cX7_fails : ByteArray := prog_9_method_9_code
def yX7_fails : MethodName := ⟨RX7, "fails", "()Z"⟩
abbrev cX7_isNumber : ByteArray := prog_9_method_10_code
def yX7_isNumber : MethodName := ⟨RX7, "isNumber", "(III)Z"⟩
abbrev cX7_isGoing : ByteArray := prog_9_method_11_code
def yX7_isGoing : MethodName := ⟨RX7, "isGoing", "(I)Z"⟩
abbrev cX7_isStopped : ByteArray := prog_9_method_12_code
def yX7_isStopped : MethodName := ⟨RX7, "isStopped", "(I)Z"⟩
abbrev cX7_isNow : ByteArray := prog_9_method_13_code
def yX7_isNow : MethodName := ⟨RX7, "isNow", "(I)Z"⟩
abbrev cX7_isGone : ByteArray := prog_9_method_14_code
def yX7_isGone : MethodName := ⟨RX7, "isGone", "(I)Z"⟩
abbrev cX7_isLine : ByteArray := prog_9_method_15_code
def yX7_isLine : MethodName := ⟨RX7, "isLine", "(I)Z"⟩
abbrev cX7_isText : ByteArray := prog_9_method_16_code
def yX7_isText : MethodName := ⟨RX7, "isText", "()Z"⟩
abbrev cX7_fault : ByteArray := prog_9_method_17_code
def yX7_fault : MethodName := ⟨RX7, "fault", "()I"⟩
abbrev cX7_doLine : ByteArray := prog_9_method_18_code
def yX7_doLine : MethodName := ⟨RX7, "doLine", "(I)V"⟩
abbrev cX7_house : ByteArray := prog_9_method_19_code
def yX7_house : MethodName := ⟨RX7, "house", "()I"⟩
abbrev cX7_clock : ByteArray := prog_9_method_20_code
def yX7_clock : MethodName := ⟨RX7, "clock", "(II)I"⟩
abbrev cX7_rest : ByteArray := prog_9_method_21_code
def yX7_rest : MethodName := ⟨RX7, "rest", "(II)I"⟩
abbrev cX7_down : ByteArray := prog_9_method_22_code
def yX7_down : MethodName := ⟨RX7, "down", "(II)I"⟩
abbrev cX7_hand : ByteArray := prog_9_method_23_code
def yX7_hand : MethodName := ⟨RX7, "hand", "(III)I"⟩
abbrev cX7_isMinute : ByteArray := prog_9_method_24_code
def yX7_isMinute : MethodName := ⟨RX7, "isMinute", "(I)Z"⟩
abbrev cX7_shows : ByteArray := prog_9_method_25_code
def yX7_shows : MethodName := ⟨RX7, "shows", "(III)I"⟩
abbrev cX7_isBetween : ByteArray := prog_9_method_26_code
def yX7_isBetween : MethodName := ⟨RX7, "isBetween", "(III)Z"⟩
abbrev cX7_canShow : ByteArray := prog_9_method_27_code
def yX7_canShow : MethodName := ⟨RX7, "canShow", "(III)Z"⟩
abbrev cX7_can : ByteArray := prog_9_method_28_code
def yX7_can : MethodName := ⟨RX7, "can", "(III)I"⟩
abbrev cX7_fitAt : ByteArray := prog_9_method_29_code
def yX7_fitAt : MethodName := ⟨RX7, "fitAt", "(I)I"⟩
abbrev cX7_fits : ByteArray := prog_9_method_30_code
def yX7_fits : MethodName := ⟨RX7, "fits", "(I)I"⟩
abbrev cX7_layFits : ByteArray := prog_9_method_31_code
def yX7_layFits : MethodName := ⟨RX7, "layFits", "()V"⟩
abbrev cX7_times : ByteArray := prog_9_method_32_code
def yX7_times : MethodName := ⟨RX7, "times", "(I)I"⟩
abbrev cX7_liars : ByteArray := prog_9_method_33_code
def yX7_liars : MethodName := ⟨RX7, "liars", "(I)I"⟩
abbrev cX7_isExact : ByteArray := prog_9_method_34_code
def yX7_isExact : MethodName := ⟨RX7, "isExact", "(I)Z"⟩
abbrev cX7_next : ByteArray := prog_9_method_35_code
def yX7_next : MethodName := ⟨RX7, "next", "(I)I"⟩
abbrev cX7_note : ByteArray := prog_9_method_36_code
def yX7_note : MethodName := ⟨RX7, "note", "(III)I"⟩
abbrev cX7_burn : ByteArray := prog_9_method_37_code
def yX7_burn : MethodName := ⟨RX7, "burn", "()I"⟩
abbrev cX7_isNoted : ByteArray := prog_9_method_38_code
def yX7_isNoted : MethodName := ⟨RX7, "isNoted", "(II)Z"⟩
abbrev cX7_rates : ByteArray := prog_9_method_39_code
def yX7_rates : MethodName := ⟨RX7, "rates", "(II)I"⟩
abbrev cX7_common : ByteArray := prog_9_method_40_code
def yX7_common : MethodName := ⟨RX7, "common", "(II)I"⟩
abbrev cX7_isAgain : ByteArray := prog_9_method_41_code
def yX7_isAgain : MethodName := ⟨RX7, "isAgain", "(II)Z"⟩
abbrev cX7_isFirstAgain : ByteArray := prog_9_method_42_code
def yX7_isFirstAgain : MethodName := ⟨RX7, "isFirstAgain", "(III)Z"⟩
abbrev cX7_again : ByteArray := prog_9_method_43_code
def yX7_again : MethodName := ⟨RX7, "again", "(II)I"⟩
abbrev cX7_stopped : ByteArray := prog_9_method_44_code
def yX7_stopped : MethodName := ⟨RX7, "stopped", "(III)I"⟩
abbrev cX7_setBy : ByteArray := prog_9_method_45_code
def yX7_setBy : MethodName := ⟨RX7, "setBy", "(IIII)I"⟩
abbrev cX7_toWhole : ByteArray := prog_9_method_46_code
def yX7_toWhole : MethodName := ⟨RX7, "toWhole", "(II)I"⟩
abbrev cX7_egg : ByteArray := prog_9_method_47_code
def yX7_egg : MethodName := ⟨RX7, "egg", "(IIIII)J"⟩
abbrev cX7_greatest : ByteArray := prog_9_method_48_code
def yX7_greatest : MethodName := ⟨RX7, "greatest", "()I"⟩
abbrev cX7_take : ByteArray := prog_9_method_49_code
def yX7_take : MethodName := ⟨RX7, "take", "()V"⟩
abbrev cX7_nextRow : ByteArray := prog_9_method_50_code
def yX7_nextRow : MethodName := ⟨RX7, "nextRow", "()Z"⟩
abbrev cX7_order : ByteArray := prog_9_method_51_code
def yX7_order : MethodName := ⟨RX7, "order", "(I)I"⟩
abbrev cX7_keep : ByteArray := prog_9_method_52_code
def yX7_keep : MethodName := ⟨RX7, "keep", "(I)I"⟩
abbrev cX7_back : ByteArray := prog_9_method_53_code
def yX7_back : MethodName := ⟨RX7, "back", "(I)I"⟩
abbrev cX7_count : ByteArray := prog_9_method_54_code
def yX7_count : MethodName := ⟨RX7, "count", "(I)I"⟩
def RJx145de : String := "java/io/Serializable"
def TJx145de : u_T := fun k => match k with
  | _ => ("", "", "", false)
def tyJx145de : Nat → FieldType := fun k => match k with
  | _ => .int
abbrev wsJx145de0 : List Cond := u_ws RJx145de TJx145de 0
theorem nmJx145de : ∀ a, a < 0 → ∀ b, b < 0 → a ≠ b → (TJx145de a).2.1 ≠ (TJx145de b).2.1 := by decide +kernel
theorem tyJx145de_ok : ∀ k, k < 0 → parseFieldDescriptor (TJx145de k).2.2.1 = some (tyJx145de k) := by decide +kernel
def RJx9f9b0 : String := "java/lang/CharSequence"
def TJx9f9b0 : u_T := fun k => match k with
  | _ => ("", "", "", false)
def tyJx9f9b0 : Nat → FieldType := fun k => match k with
  | _ => .int
abbrev wsJx9f9b00 : List Cond := u_ws RJx9f9b0 TJx9f9b0 0
theorem nmJx9f9b0 : ∀ a, a < 0 → ∀ b, b < 0 → a ≠ b → (TJx9f9b0 a).2.1 ≠ (TJx9f9b0 b).2.1 := by decide +kernel
theorem tyJx9f9b0_ok : ∀ k, k < 0 → parseFieldDescriptor (TJx9f9b0 k).2.2.1 = some (tyJx9f9b0 k) := by decide +kernel
def RJxb160c : String := "java/lang/Comparable"
def TJxb160c : u_T := fun k => match k with
  | _ => ("", "", "", false)
def tyJxb160c : Nat → FieldType := fun k => match k with
  | _ => .int
abbrev wsJxb160c0 : List Cond := u_ws RJxb160c TJxb160c 0
theorem nmJxb160c : ∀ a, a < 0 → ∀ b, b < 0 → a ≠ b → (TJxb160c a).2.1 ≠ (TJxb160c b).2.1 := by decide +kernel
theorem tyJxb160c_ok : ∀ k, k < 0 → parseFieldDescriptor (TJxb160c k).2.2.1 = some (tyJxb160c k) := by decide +kernel
def RJ6 : String := "java/lang/Integer"
def TJ6 : u_T := fun k => match k with
  | _ => ("", "", "", false)
def tyJ6 : Nat → FieldType := fun k => match k with
  | _ => .int
abbrev wsJ60 : List Cond := u_ws RJ6 TJ6 0
theorem nmJ6 : ∀ a, a < 0 → ∀ b, b < 0 → a ≠ b → (TJ6 a).2.1 ≠ (TJ6 b).2.1 := by decide +kernel
theorem tyJ6_ok : ∀ k, k < 0 → parseFieldDescriptor (TJ6 k).2.2.1 = some (tyJ6 k) := by decide +kernel
abbrev cJ6_bitCount_0f7a4 : ByteArray := prog_10_method_49_code
def yJ6_bitCount_0f7a4 : MethodName := ⟨RJ6, "bitCount", "(I)I"⟩
def RJ9 : String := "java/lang/Math"
def TJ9 : u_T := fun k => match k with
  | _ => ("", "", "", false)
def tyJ9 : Nat → FieldType := fun k => match k with
  | _ => .int
abbrev wsJ90 : List Cond := u_ws RJ9 TJ9 0
theorem nmJ9 : ∀ a, a < 0 → ∀ b, b < 0 → a ≠ b → (TJ9 a).2.1 ≠ (TJ9 b).2.1 := by decide +kernel
theorem tyJ9_ok : ∀ k, k < 0 → parseFieldDescriptor (TJ9 k).2.2.1 = some (tyJ9 k) := by decide +kernel
abbrev cJ9_floorDiv_7cf53 : ByteArray := prog_11_method_47_code
def yJ9_floorDiv_7cf53 : MethodName := ⟨RJ9, "floorDiv", "(II)I"⟩
abbrev cJ9_floorMod_7cf53 : ByteArray := prog_11_method_50_code
def yJ9_floorMod_7cf53 : MethodName := ⟨RJ9, "floorMod", "(II)I"⟩
abbrev cJ9_floorMod_f86c9 : ByteArray := prog_11_method_52_code
def yJ9_floorMod_f86c9 : MethodName := ⟨RJ9, "floorMod", "(JJ)J"⟩
abbrev cJ9_abs_0f7a4 : ByteArray := prog_11_method_59_code
def yJ9_abs_0f7a4 : MethodName := ⟨RJ9, "abs", "(I)I"⟩
abbrev cJ9_abs_067f4 : ByteArray := prog_11_method_61_code
def yJ9_abs_067f4 : MethodName := ⟨RJ9, "abs", "(J)J"⟩
abbrev cJ9_max_7cf53 : ByteArray := prog_11_method_65_code
def yJ9_max_7cf53 : MethodName := ⟨RJ9, "max", "(II)I"⟩
abbrev cJ9_max_f86c9 : ByteArray := prog_11_method_66_code
def yJ9_max_f86c9 : MethodName := ⟨RJ9, "max", "(JJ)J"⟩
abbrev cJ9_min_7cf53 : ByteArray := prog_11_method_69_code
def yJ9_min_7cf53 : MethodName := ⟨RJ9, "min", "(II)I"⟩
def RJ0 : String := "java/lang/String"
def TJ0 : u_T := fun k => match k with
  | _ => ("", "", "", false)
def tyJ0 : Nat → FieldType := fun k => match k with
  | _ => .int
abbrev wsJ00 : List Cond := u_ws RJ0 TJ0 0
theorem nmJ0 : ∀ a, a < 0 → ∀ b, b < 0 → a ≠ b → (TJ0 a).2.1 ≠ (TJ0 b).2.1 := by decide +kernel
theorem tyJ0_ok : ∀ k, k < 0 → parseFieldDescriptor (TJ0 k).2.2.1 = some (tyJ0 k) := by decide +kernel
abbrev cJ0_length_8abf5 : ByteArray := prog_12_method_54_code
def yJ0_length_8abf5 : MethodName := ⟨RJ0, "length", "()I"⟩
abbrev cJ0_charAt_5068e : ByteArray := prog_12_method_56_code
def yJ0_charAt_5068e : MethodName := ⟨RJ0, "charAt", "(I)C"⟩
abbrev cJ0_coder_7d493 : ByteArray := prog_12_method_152_code
def yJ0_coder_7d493 : MethodName := ⟨RJ0, "coder", "()B"⟩
abbrev cJ0_isLatin1_aae02 : ByteArray := prog_12_method_154_code
def yJ0_isLatin1_aae02 : MethodName := ⟨RJ0, "isLatin1", "()Z"⟩
abbrev cJ0_checkIndex_df160 : ByteArray := prog_12_method_155_code
def yJ0_checkIndex_df160 : MethodName := ⟨RJ0, "checkIndex", "(II)V"⟩
def RJ1 : String := "java/lang/StringLatin1"
def TJ1 : u_T := fun k => match k with
  | _ => ("", "", "", false)
def tyJ1 : Nat → FieldType := fun k => match k with
  | _ => .int
abbrev wsJ10 : List Cond := u_ws RJ1 TJ1 0
theorem nmJ1 : ∀ a, a < 0 → ∀ b, b < 0 → a ≠ b → (TJ1 a).2.1 ≠ (TJ1 b).2.1 := by decide +kernel
theorem tyJ1_ok : ∀ k, k < 0 → parseFieldDescriptor (TJ1 k).2.2.1 = some (tyJ1 k) := by decide +kernel
abbrev cJ1_charAt_3b067 : ByteArray := prog_13_method_2_code
def yJ1_charAt_3b067 : MethodName := ⟨RJ1, "charAt", "([BI)C"⟩
def RJ2 : String := "java/lang/StringUTF16"
def TJ2 : u_T := fun k => match k with
  | _ => ("", "", "", false)
def tyJ2 : Nat → FieldType := fun k => match k with
  | _ => .int
abbrev wsJ20 : List Cond := u_ws RJ2 TJ2 0
theorem nmJ2 : ∀ a, a < 0 → ∀ b, b < 0 → a ≠ b → (TJ2 a).2.1 ≠ (TJ2 b).2.1 := by decide +kernel
theorem tyJ2_ok : ∀ k, k < 0 → parseFieldDescriptor (TJ2 k).2.2.1 = some (tyJ2 k) := by decide +kernel
abbrev cJ2_getChar_3b067 : ByteArray := prog_14_method_5_code
def yJ2_getChar_3b067 : MethodName := ⟨RJ2, "getChar", "([BI)C"⟩
abbrev cJ2_length_9d52b : ByteArray := prog_14_method_6_code
def yJ2_length_9d52b : MethodName := ⟨RJ2, "length", "([B)I"⟩
abbrev cJ2_charAt_3b067 : ByteArray := prog_14_method_83_code
def yJ2_charAt_3b067 : MethodName := ⟨RJ2, "charAt", "([BI)C"⟩
abbrev cJ2_checkIndex_2214a : ByteArray := prog_14_method_91_code
def yJ2_checkIndex_2214a : MethodName := ⟨RJ2, "checkIndex", "(I[B)V"⟩
def RJxfd54e : String := "java/lang/constant/Constable"
def TJxfd54e : u_T := fun k => match k with
  | _ => ("", "", "", false)
def tyJxfd54e : Nat → FieldType := fun k => match k with
  | _ => .int
abbrev wsJxfd54e0 : List Cond := u_ws RJxfd54e TJxfd54e 0
theorem nmJxfd54e : ∀ a, a < 0 → ∀ b, b < 0 → a ≠ b → (TJxfd54e a).2.1 ≠ (TJxfd54e b).2.1 := by decide +kernel
theorem tyJxfd54e_ok : ∀ k, k < 0 → parseFieldDescriptor (TJxfd54e k).2.2.1 = some (tyJxfd54e k) := by decide +kernel
def RJx3cf43 : String := "java/lang/constant/ConstantDesc"
def TJx3cf43 : u_T := fun k => match k with
  | _ => ("", "", "", false)
def tyJx3cf43 : Nat → FieldType := fun k => match k with
  | _ => .int
abbrev wsJx3cf430 : List Cond := u_ws RJx3cf43 TJx3cf43 0
theorem nmJx3cf43 : ∀ a, a < 0 → ∀ b, b < 0 → a ≠ b → (TJx3cf43 a).2.1 ≠ (TJx3cf43 b).2.1 := by decide +kernel
theorem tyJx3cf43_ok : ∀ k, k < 0 → parseFieldDescriptor (TJx3cf43 k).2.2.1 = some (tyJx3cf43 k) := by decide +kernel
def RJ7 : String := "java/util/Arrays"
def TJ7 : u_T := fun k => match k with
  | _ => ("", "", "", false)
def tyJ7 : Nat → FieldType := fun k => match k with
  | _ => .int
abbrev wsJ70 : List Cond := u_ws RJ7 TJ7 0
theorem nmJ7 : ∀ a, a < 0 → ∀ b, b < 0 → a ≠ b → (TJ7 a).2.1 ≠ (TJ7 b).2.1 := by decide +kernel
theorem tyJ7_ok : ∀ k, k < 0 → parseFieldDescriptor (TJ7 k).2.2.1 = some (tyJ7 k) := by decide +kernel
abbrev cJ7_fill_53178 : ByteArray := prog_15_method_103_code
def yJ7_fill_53178 : MethodName := ⟨RJ7, "fill", "([II)V"⟩
def RJ3 : String := "jdk/internal/util/Preconditions"
def TJ3 : u_T := fun k => match k with
  | _ => ("", "", "", false)
def tyJ3 : Nat → FieldType := fun k => match k with
  | _ => .int
abbrev wsJ30 : List Cond := u_ws RJ3 TJ3 0
theorem nmJ3 : ∀ a, a < 0 → ∀ b, b < 0 → a ≠ b → (TJ3 a).2.1 ≠ (TJ3 b).2.1 := by decide +kernel
theorem tyJ3_ok : ∀ k, k < 0 → parseFieldDescriptor (TJ3 k).2.2.1 = some (tyJ3 k) := by decide +kernel
abbrev cJ3_checkIndex_8e157 : ByteArray := prog_16_method_11_code
def yJ3_checkIndex_8e157 : MethodName := ⟨RJ3, "checkIndex", "(IILjava/util/function/BiFunction;)I"⟩
def RL : String := "WrongClocksLaw"
abbrev cL_law : ByteArray := code
def yL_law : MethodName := ⟨RL, "law", "([I)Z"⟩
def wsX0_init : List Cond := .code yX0_init cX0_init 1 none :: ([.methodLink RX0 3 objectInit, .instanceMethod objectInit, .code objectInit ⟨#[0xb1]⟩ 1 none, .fieldLink RX0 9 "WrongClocks$Clock" "kind" "I", .fieldLink RX0 15 "WrongClocks$Clock" "set" "I", .fieldLink RX0 18 "WrongClocks$Clock" "dial" "I", .fieldLink RX0 21 "WrongClocks$Clock" "low" "I", .fieldLink RX0 24 "WrongClocks$Clock" "high" "I", .fieldLink RX0 27 "WrongClocks$Clock" "read" "I"] ++ wsX00)
def wsX0_tell : List Cond := .code yX0_tell cX0_tell 6 none :: ([.fieldLink RX0 9 "WrongClocks$Clock" "kind" "I", .fieldLink RX0 15 "WrongClocks$Clock" "set" "I", .fieldLink RX0 18 "WrongClocks$Clock" "dial" "I", .fieldLink RX0 21 "WrongClocks$Clock" "low" "I", .fieldLink RX0 24 "WrongClocks$Clock" "high" "I", .fieldLink RX0 27 "WrongClocks$Clock" "read" "I"] ++ wsX00)
def wsX0_copy : List Cond := .code yX0_copy cX0_copy 2 none :: ([.fieldLink RX0 9 "WrongClocks$Clock" "kind" "I", .fieldLink RX0 15 "WrongClocks$Clock" "set" "I", .fieldLink RX0 18 "WrongClocks$Clock" "dial" "I", .fieldLink RX0 21 "WrongClocks$Clock" "low" "I", .fieldLink RX0 24 "WrongClocks$Clock" "high" "I", .fieldLink RX0 27 "WrongClocks$Clock" "read" "I", .methodLink RX0 30 yX0_tell, .instanceMethod yX0_tell, .selects RX0 yX0_tell yX0_tell, .initialized RX0, .code yX0_tell cX0_tell 6 none] ++ wsX00)
def wsX0_runsByOneRate : List Cond := .code yX0_runsByOneRate cX0_runsByOneRate 1 (some .boolean) :: ([.fieldLink RX0 9 "WrongClocks$Clock" "kind" "I", .fieldLink RX0 21 "WrongClocks$Clock" "low" "I", .fieldLink RX0 24 "WrongClocks$Clock" "high" "I"] ++ wsX00)
def wsX0_way : List Cond := .code yX0_way cX0_way 4 (some .int) :: ([.fieldLink RX0 9 "WrongClocks$Clock" "kind" "I"] ++ wsX00)
def wsX0_handAt : List Cond := .code yX0_handAt cX0_handAt 3 (some .int) :: ([.fieldLink RX0 18 "WrongClocks$Clock" "dial" "I", .fieldLink RX0 15 "WrongClocks$Clock" "set" "I", .methodLink RX0 34 yX0_way, .instanceMethod yX0_way, .selects RX0 yX0_way yX0_way, .initialized RX0, .code yX0_way cX0_way 4 (some .int), .fieldLink RX0 9 "WrongClocks$Clock" "kind" "I"] ++ wsX00)
def wsJ9_floorDiv_7cf53 : List Cond := .code yJ9_floorDiv_7cf53 cJ9_floorDiv_7cf53 3 (some .int) :: ([])
def wsJ9_floorMod_7cf53 : List Cond := .code yJ9_floorMod_7cf53 cJ9_floorMod_7cf53 3 (some .int) :: ([])
def wsX0_dialAt : List Cond := .code yX0_dialAt cX0_dialAt 3 (some .int) :: ([.methodLink RX0 38 yX0_handAt, .instanceMethod yX0_handAt, .selects RX0 yX0_handAt yX0_handAt, .initialized RX0, .code yX0_handAt cX0_handAt 3 (some .int), .fieldLink RX0 18 "WrongClocks$Clock" "dial" "I", .fieldLink RX0 15 "WrongClocks$Clock" "set" "I", .methodLink RX0 34 yX0_way, .instanceMethod yX0_way, .selects RX0 yX0_way yX0_way, .code yX0_way cX0_way 4 (some .int), .fieldLink RX0 9 "WrongClocks$Clock" "kind" "I", .methodLink RX0 41 yJ9_floorDiv_7cf53, .static yJ9_floorDiv_7cf53, .initialized RJ9, .code yJ9_floorDiv_7cf53 cJ9_floorDiv_7cf53 3 (some .int), .methodLink RX0 46 yJ9_floorMod_7cf53, .static yJ9_floorMod_7cf53, .code yJ9_floorMod_7cf53 cJ9_floorMod_7cf53 3 (some .int)] ++ wsX00)
def wsX0_canShow_r1 : List Cond := [Cond.fieldLink RX0 21 "WrongClocks$Clock" "low" "I", Cond.fieldLink RX0 24 "WrongClocks$Clock" "high" "I", Cond.methodLink RX0 49 Lib.Math.min.name, Cond.static Lib.Math.min.name, Cond.initialized "java/lang/Math", Cond.code Lib.Math.min.name Lib.Math.min.code 2 (some .int), Cond.methodLink RX0 52 Lib.Math.max.name, Cond.static Lib.Math.max.name, Cond.code Lib.Math.max.name Lib.Math.max.code 2 (some .int), Cond.methodLink RX0 38 yX0_handAt, Cond.instanceMethod yX0_handAt, Cond.selects RX0 yX0_handAt yX0_handAt, Cond.initialized RX0, Cond.code yX0_handAt cX0_handAt 3 (some .int), Cond.fieldLink RX0 18 "WrongClocks$Clock" "dial" "I", Cond.fieldLink RX0 15 "WrongClocks$Clock" "set" "I", Cond.methodLink RX0 34 yX0_way, Cond.instanceMethod yX0_way, Cond.selects RX0 yX0_way yX0_way, Cond.code yX0_way cX0_way 4 (some .int), Cond.fieldLink RX0 9 "WrongClocks$Clock" "kind" "I", Cond.methodLink RX0 41 yJ9_floorDiv_7cf53, Cond.static yJ9_floorDiv_7cf53, Cond.initialized RJ9]
def wsX0_canShow_r2 : List Cond := [Cond.code yJ9_floorDiv_7cf53 cJ9_floorDiv_7cf53 3 (some .int), Cond.methodLink RX0 46 yJ9_floorMod_7cf53, Cond.static yJ9_floorMod_7cf53, Cond.code yJ9_floorMod_7cf53 cJ9_floorMod_7cf53 3 (some .int)]
def wsX0_canShow : List Cond := .code yX0_canShow cX0_canShow 7 (some .boolean) :: ((wsX0_canShow_r1 ++ wsX0_canShow_r2) ++ wsX00)
def wsX0_partsToWholeMinute : List Cond := .code yX0_partsToWholeMinute cX0_partsToWholeMinute 2 (some .int) :: ([.fieldLink RX0 15 "WrongClocks$Clock" "set" "I", .fieldLink RX0 21 "WrongClocks$Clock" "low" "I", .methodLink RX0 46 yJ9_floorMod_7cf53, .static yJ9_floorMod_7cf53, .initialized RJ9, .code yJ9_floorMod_7cf53 cJ9_floorMod_7cf53 3 (some .int)] ++ wsX00)
def wsX2_init : List Cond := .code yX2_init cX2_init 1 none :: ([.methodLink RX2 3 objectInit, .instanceMethod objectInit, .code objectInit ⟨#[0xb1]⟩ 1 none, .fieldLink RX2 9 "WrongClocks$Notes" "many" "I", .arrayClass .int, .fieldLink RX2 15 "WrongClocks$Notes" "clocks" "[I", .fieldLink RX2 19 "WrongClocks$Notes" "minutes" "[I", .fieldLink RX2 22 "WrongClocks$Notes" "dials" "[I"] ++ wsX20)
def wsX1_init_r1 : List Cond := [Cond.methodLink RX1 3 objectInit, Cond.instanceMethod objectInit, Cond.code objectInit ⟨#[0xb1]⟩ 1 none, Cond.fieldLink RX1 9 "WrongClocks$House" "filled" "Z", Cond.classLink RX1 15 RX0, Cond.fieldLink RX1 17 "WrongClocks$House" "clocks" "[LWrongClocks$Clock;", Cond.classLink RX1 21 RX2, Cond.instantiable RX2 4, Cond.initialized RX2, Cond.fieldLink RX1 24 "WrongClocks$House" "notes" "LWrongClocks$Notes;", Cond.instantiable RX0 6, Cond.initialized RX0, Cond.instanceMethod yX2_init, Cond.code yX2_init cX2_init 1 none, Cond.methodLink RX2 3 objectInit, Cond.fieldLink RX2 9 "WrongClocks$Notes" "many" "I", Cond.arrayClass .int, Cond.fieldLink RX2 15 "WrongClocks$Notes" "clocks" "[I", Cond.fieldLink RX2 19 "WrongClocks$Notes" "minutes" "[I", Cond.fieldLink RX2 22 "WrongClocks$Notes" "dials" "[I", Cond.instanceMethod yX0_init, Cond.code yX0_init cX0_init 1 none, Cond.methodLink RX0 3 objectInit, Cond.fieldLink RX0 9 "WrongClocks$Clock" "kind" "I"]
def wsX1_init_r2 : List Cond := [Cond.fieldLink RX0 15 "WrongClocks$Clock" "set" "I", Cond.fieldLink RX0 18 "WrongClocks$Clock" "dial" "I", Cond.fieldLink RX0 21 "WrongClocks$Clock" "low" "I", Cond.fieldLink RX0 24 "WrongClocks$Clock" "high" "I", Cond.fieldLink RX0 27 "WrongClocks$Clock" "read" "I"]
def wsX1_init : List Cond := .code yX1_init cX1_init 2 none :: ((wsX1_init_r1 ++ wsX1_init_r2) ++ wsX10 ++ wsX20 ++ wsX00)
def wsX2_add : List Cond := .code yX2_add cX2_add 4 (some .boolean) :: ([.fieldLink RX2 9 "WrongClocks$Notes" "many" "I", .fieldLink RX2 15 "WrongClocks$Notes" "clocks" "[I", .fieldLink RX2 19 "WrongClocks$Notes" "minutes" "[I", .fieldLink RX2 22 "WrongClocks$Notes" "dials" "[I"] ++ wsX20)
def wsX2_copy : List Cond := .code yX2_copy cX2_copy 3 none :: ([.fieldLink RX2 9 "WrongClocks$Notes" "many" "I", .fieldLink RX2 15 "WrongClocks$Notes" "clocks" "[I", .fieldLink RX2 19 "WrongClocks$Notes" "minutes" "[I", .fieldLink RX2 22 "WrongClocks$Notes" "dials" "[I", .methodLink RX2 25 yX2_add, .instanceMethod yX2_add, .selects RX2 yX2_add yX2_add, .initialized RX2, .code yX2_add cX2_add 4 (some .boolean)] ++ wsX20)
def wsX1_copy_r1 : List Cond := [Cond.fieldLink RX1 17 "WrongClocks$House" "clocks" "[LWrongClocks$Clock;", Cond.fieldLink RX1 24 "WrongClocks$House" "notes" "LWrongClocks$Notes;", Cond.methodLink RX1 29 yX0_copy, Cond.instanceMethod yX0_copy, Cond.selects RX0 yX0_copy yX0_copy, Cond.initialized RX0, Cond.code yX0_copy cX0_copy 2 none, Cond.fieldLink RX0 9 "WrongClocks$Clock" "kind" "I", Cond.fieldLink RX0 15 "WrongClocks$Clock" "set" "I", Cond.fieldLink RX0 18 "WrongClocks$Clock" "dial" "I", Cond.fieldLink RX0 21 "WrongClocks$Clock" "low" "I", Cond.fieldLink RX0 24 "WrongClocks$Clock" "high" "I", Cond.fieldLink RX0 27 "WrongClocks$Clock" "read" "I", Cond.methodLink RX0 30 yX0_tell, Cond.instanceMethod yX0_tell, Cond.selects RX0 yX0_tell yX0_tell, Cond.code yX0_tell cX0_tell 6 none, Cond.methodLink RX1 33 yX2_copy, Cond.instanceMethod yX2_copy, Cond.selects RX2 yX2_copy yX2_copy, Cond.initialized RX2, Cond.code yX2_copy cX2_copy 3 none, Cond.fieldLink RX2 9 "WrongClocks$Notes" "many" "I", Cond.fieldLink RX2 15 "WrongClocks$Notes" "clocks" "[I"]
def wsX1_copy_r2 : List Cond := [Cond.fieldLink RX2 19 "WrongClocks$Notes" "minutes" "[I", Cond.fieldLink RX2 22 "WrongClocks$Notes" "dials" "[I", Cond.methodLink RX2 25 yX2_add, Cond.instanceMethod yX2_add, Cond.selects RX2 yX2_add yX2_add, Cond.code yX2_add cX2_add 4 (some .boolean)]
def wsX1_copy : List Cond := .code yX1_copy cX1_copy 3 none :: ((wsX1_copy_r1 ++ wsX1_copy_r2) ++ wsX10 ++ wsX00 ++ wsX20)
def wsX6_isBelow : List Cond := .code yX6_isBelow cX6_isBelow 2 (some .boolean) :: ([])
def wsX1_toldClock : List Cond := .code yX1_toldClock cX1_toldClock 2 (some (.object "WrongClocks$Clock")) :: ([.fieldLink RX1 17 "WrongClocks$House" "clocks" "[LWrongClocks$Clock;", .fieldLink RX1 40 "WrongClocks$Clock" "kind" "I", .static yX6_isBelow, .initialized RX6, .code yX6_isBelow cX6_isBelow 2 (some .boolean)] ++ wsX10 ++ wsX00)
def wsX1_toldBits : List Cond := .code yX1_toldBits cX1_toldBits 3 (some .int) :: ([.fieldLink RX1 17 "WrongClocks$House" "clocks" "[LWrongClocks$Clock;", .fieldLink RX1 40 "WrongClocks$Clock" "kind" "I"] ++ wsX10 ++ wsX00)
def wsX1_readBits : List Cond := .code yX1_readBits cX1_readBits 3 (some .int) :: ([.fieldLink RX1 17 "WrongClocks$House" "clocks" "[LWrongClocks$Clock;", .fieldLink RX1 44 "WrongClocks$Clock" "read" "I"] ++ wsX10 ++ wsX00)
def wsX1_misfitsAt_r1 : List Cond := [Cond.fieldLink RX1 17 "WrongClocks$House" "clocks" "[LWrongClocks$Clock;", Cond.fieldLink RX1 44 "WrongClocks$Clock" "read" "I", Cond.methodLink RX1 47 yX0_canShow, Cond.instanceMethod yX0_canShow, Cond.selects RX0 yX0_canShow yX0_canShow, Cond.initialized RX0, Cond.code yX0_canShow cX0_canShow 7 (some .boolean), Cond.fieldLink RX0 21 "WrongClocks$Clock" "low" "I", Cond.fieldLink RX0 24 "WrongClocks$Clock" "high" "I", Cond.methodLink RX0 49 Lib.Math.min.name, Cond.static Lib.Math.min.name, Cond.initialized "java/lang/Math", Cond.code Lib.Math.min.name Lib.Math.min.code 2 (some .int), Cond.methodLink RX0 52 Lib.Math.max.name, Cond.static Lib.Math.max.name, Cond.code Lib.Math.max.name Lib.Math.max.code 2 (some .int), Cond.methodLink RX0 38 yX0_handAt, Cond.instanceMethod yX0_handAt, Cond.selects RX0 yX0_handAt yX0_handAt, Cond.code yX0_handAt cX0_handAt 3 (some .int), Cond.fieldLink RX0 18 "WrongClocks$Clock" "dial" "I", Cond.fieldLink RX0 15 "WrongClocks$Clock" "set" "I", Cond.methodLink RX0 34 yX0_way, Cond.instanceMethod yX0_way]
def wsX1_misfitsAt_r2 : List Cond := [Cond.selects RX0 yX0_way yX0_way, Cond.code yX0_way cX0_way 4 (some .int), Cond.fieldLink RX0 9 "WrongClocks$Clock" "kind" "I", Cond.methodLink RX0 41 yJ9_floorDiv_7cf53, Cond.static yJ9_floorDiv_7cf53, Cond.initialized RJ9, Cond.code yJ9_floorDiv_7cf53 cJ9_floorDiv_7cf53 3 (some .int), Cond.methodLink RX0 46 yJ9_floorMod_7cf53, Cond.static yJ9_floorMod_7cf53, Cond.code yJ9_floorMod_7cf53 cJ9_floorMod_7cf53 3 (some .int)]
def wsX1_misfitsAt : List Cond := .code yX1_misfitsAt cX1_misfitsAt 5 (some .int) :: ((wsX1_misfitsAt_r1 ++ wsX1_misfitsAt_r2) ++ wsX10 ++ wsX00)
def wsX5_number : List Cond := .code yX5_number cX5_number 3 (some .int) :: ([.fieldLink RX5 19 "WrongClocks$Text" "rows" "[I", .static yX6_isBelow, .initialized RX6, .code yX6_isBelow cX6_isBelow 2 (some .boolean)] ++ wsX50)
def wsX1_readNone : List Cond := .code yX1_readNone cX1_readNone 2 none :: ([.fieldLink RX1 17 "WrongClocks$House" "clocks" "[LWrongClocks$Clock;", .fieldLink RX1 44 "WrongClocks$Clock" "read" "I"] ++ wsX10 ++ wsX00)
def wsX1_heed_r1 : List Cond := [Cond.fieldLink RX1 17 "WrongClocks$House" "clocks" "[LWrongClocks$Clock;", Cond.fieldLink RX1 44 "WrongClocks$Clock" "read" "I", Cond.methodLink RX1 50 yX5_number, Cond.instanceMethod yX5_number, Cond.selects RX5 yX5_number yX5_number, Cond.initialized RX5, Cond.code yX5_number cX5_number 3 (some .int), Cond.fieldLink RX5 19 "WrongClocks$Text" "rows" "[I", Cond.static yX6_isBelow, Cond.initialized RX6, Cond.code yX6_isBelow cX6_isBelow 2 (some .boolean), Cond.methodLink RX1 56 yX1_readNone, Cond.instanceMethod yX1_readNone, Cond.selects RX1 yX1_readNone yX1_readNone, Cond.initialized RX1, Cond.code yX1_readNone cX1_readNone 2 none, Cond.methodLink RX1 59 yX0_tell, Cond.instanceMethod yX0_tell, Cond.selects RX0 yX0_tell yX0_tell, Cond.initialized RX0, Cond.code yX0_tell cX0_tell 6 none, Cond.fieldLink RX0 9 "WrongClocks$Clock" "kind" "I", Cond.fieldLink RX0 15 "WrongClocks$Clock" "set" "I", Cond.fieldLink RX0 18 "WrongClocks$Clock" "dial" "I"]
def wsX1_heed_r2 : List Cond := [Cond.fieldLink RX0 21 "WrongClocks$Clock" "low" "I", Cond.fieldLink RX0 24 "WrongClocks$Clock" "high" "I", Cond.fieldLink RX0 27 "WrongClocks$Clock" "read" "I"]
def wsX1_heed : List Cond := .code yX1_heed cX1_heed 8 none :: ((wsX1_heed_r1 ++ wsX1_heed_r2) ++ wsX10 ++ wsX00 ++ wsX50)
def wsX2_allow : List Cond := .code yX2_allow cX2_allow 11 (some .boolean) :: ([.fieldLink RX2 9 "WrongClocks$Notes" "many" "I", .fieldLink RX2 15 "WrongClocks$Notes" "clocks" "[I", .fieldLink RX2 22 "WrongClocks$Notes" "dials" "[I", .fieldLink RX2 19 "WrongClocks$Notes" "minutes" "[I", .constant RX2 35 (518400), .constant RX2 36 (1036800), .methodLink RX2 42 Lib.Math.min.name, .static Lib.Math.min.name, .initialized "java/lang/Math", .code Lib.Math.min.name Lib.Math.min.code 2 (some .int), .methodLink RX2 45 Lib.Math.max.name, .static Lib.Math.max.name, .code Lib.Math.max.name Lib.Math.max.code 2 (some .int), .methodLink RX2 29 yX0_way, .instanceMethod yX0_way, .selects RX0 yX0_way yX0_way, .initialized RX0, .code yX0_way cX0_way 4 (some .int), .fieldLink RX0 9 "WrongClocks$Clock" "kind" "I", .methodLink RX2 37 yJ9_floorMod_7cf53, .static yJ9_floorMod_7cf53, .initialized RJ9, .code yJ9_floorMod_7cf53 cJ9_floorMod_7cf53 3 (some .int)] ++ wsX20 ++ wsX00)
def wsX3_init : List Cond := .code yX3_init cX3_init 1 none :: ([.methodLink RX3 3 objectInit, .instanceMethod objectInit, .code objectInit ⟨#[0xb1]⟩ 1 none, .fieldLink RX3 9 "WrongClocks$Queue" "many" "I", .arrayClass .int, .fieldLink RX3 15 "WrongClocks$Queue" "clocks" "[I", .fieldLink RX3 19 "WrongClocks$Queue" "rates" "[I", .fieldLink RX3 22 "WrongClocks$Queue" "least" "[I"] ++ wsX30)
def wsX3_clear : List Cond := .code yX3_clear cX3_clear 1 none :: ([.fieldLink RX3 9 "WrongClocks$Queue" "many" "I"] ++ wsX30)
def wsX3_add : List Cond := .code yX3_add cX3_add 3 none :: ([.fieldLink RX3 9 "WrongClocks$Queue" "many" "I", .fieldLink RX3 15 "WrongClocks$Queue" "clocks" "[I", .fieldLink RX3 19 "WrongClocks$Queue" "rates" "[I"] ++ wsX30)
def wsX3_leastBehind : List Cond := .code yX3_leastBehind cX3_leastBehind 2 (some .int) :: ([.fieldLink RX3 22 "WrongClocks$Queue" "least" "[I", .static yX6_isBelow, .initialized RX6, .code yX6_isBelow cX6_isBelow 2 (some .boolean)] ++ wsX30)
def wsX3_errorBehind : List Cond := .code yX3_errorBehind cX3_errorBehind 4 (some .int) :: ([.fieldLink RX3 9 "WrongClocks$Queue" "many" "I", .fieldLink RX3 19 "WrongClocks$Queue" "rates" "[I", .methodLink RX3 38 Lib.Math.abs.name, .static Lib.Math.abs.name, .initialized "java/lang/Math", .code Lib.Math.abs.name Lib.Math.abs.code 1 (some .int)] ++ wsX30)
def wsX3_weigh : List Cond := .code yX3_weigh cX3_weigh 4 none :: ([.fieldLink RX3 9 "WrongClocks$Queue" "many" "I", .fieldLink RX3 22 "WrongClocks$Queue" "least" "[I", .methodLink RX3 32 Lib.Math.max.name, .static Lib.Math.max.name, .initialized "java/lang/Math", .code Lib.Math.max.name Lib.Math.max.code 2 (some .int), .methodLink RX3 25 yX3_leastBehind, .instanceMethod yX3_leastBehind, .selects RX3 yX3_leastBehind yX3_leastBehind, .initialized RX3, .code yX3_leastBehind cX3_leastBehind 2 (some .int), .static yX6_isBelow, .initialized RX6, .code yX6_isBelow cX6_isBelow 2 (some .boolean), .methodLink RX3 29 yX3_errorBehind, .instanceMethod yX3_errorBehind, .selects RX3 yX3_errorBehind yX3_errorBehind, .code yX3_errorBehind cX3_errorBehind 4 (some .int), .fieldLink RX3 19 "WrongClocks$Queue" "rates" "[I", .methodLink RX3 38 Lib.Math.abs.name, .static Lib.Math.abs.name, .code Lib.Math.abs.name Lib.Math.abs.code 1 (some .int)] ++ wsX30)
def wsX3_leastError : List Cond := .code yX3_leastError cX3_leastError 1 (some .int) :: ([.fieldLink RX3 22 "WrongClocks$Queue" "least" "[I"] ++ wsX30)
def wsX3_firstBehind : List Cond := .code yX3_firstBehind cX3_firstBehind 3 (some .int) :: ([.fieldLink RX3 9 "WrongClocks$Queue" "many" "I", .fieldLink RX3 22 "WrongClocks$Queue" "least" "[I", .methodLink RX3 25 yX3_leastBehind, .instanceMethod yX3_leastBehind, .selects RX3 yX3_leastBehind yX3_leastBehind, .initialized RX3, .code yX3_leastBehind cX3_leastBehind 2 (some .int), .static yX6_isBelow, .initialized RX6, .code yX6_isBelow cX6_isBelow 2 (some .boolean)] ++ wsX30)
def wsX3_clockAt : List Cond := .code yX3_clockAt cX3_clockAt 5 (some .int) :: ([.fieldLink RX3 9 "WrongClocks$Queue" "many" "I", .fieldLink RX3 15 "WrongClocks$Queue" "clocks" "[I", .methodLink RX3 45 yX3_firstBehind, .instanceMethod yX3_firstBehind, .selects RX3 yX3_firstBehind yX3_firstBehind, .initialized RX3, .code yX3_firstBehind cX3_firstBehind 3 (some .int), .fieldLink RX3 22 "WrongClocks$Queue" "least" "[I", .methodLink RX3 25 yX3_leastBehind, .instanceMethod yX3_leastBehind, .selects RX3 yX3_leastBehind yX3_leastBehind, .code yX3_leastBehind cX3_leastBehind 2 (some .int), .static yX6_isBelow, .initialized RX6, .code yX6_isBelow cX6_isBelow 2 (some .boolean)] ++ wsX30)
def wsX4_init : List Cond := .code yX4_init cX4_init 1 none :: ([.methodLink RX4 3 objectInit, .instanceMethod objectInit, .code objectInit ⟨#[0xb1]⟩ 1 none, .fieldLink RX4 9 "WrongClocks$Tally" "many" "I", .fieldLink RX4 15 "WrongClocks$Tally" "first" "I", .fieldLink RX4 18 "WrongClocks$Tally" "last" "I", .fieldLink RX4 21 "WrongClocks$Tally" "runs" "I"] ++ wsX40)
def wsX4_clear : List Cond := .code yX4_clear cX4_clear 1 none :: ([.fieldLink RX4 9 "WrongClocks$Tally" "many" "I", .fieldLink RX4 15 "WrongClocks$Tally" "first" "I", .fieldLink RX4 18 "WrongClocks$Tally" "last" "I", .fieldLink RX4 21 "WrongClocks$Tally" "runs" "I"] ++ wsX40)
def wsX4_add : List Cond := .code yX4_add cX4_add 2 none :: ([.fieldLink RX4 9 "WrongClocks$Tally" "many" "I", .fieldLink RX4 15 "WrongClocks$Tally" "first" "I", .fieldLink RX4 18 "WrongClocks$Tally" "last" "I", .fieldLink RX4 21 "WrongClocks$Tally" "runs" "I"] ++ wsX40)
def wsX4_tell : List Cond := .code yX4_tell cX4_tell 2 (some .int) :: ([.fieldLink RX4 9 "WrongClocks$Tally" "many" "I", .fieldLink RX4 15 "WrongClocks$Tally" "first" "I", .fieldLink RX4 18 "WrongClocks$Tally" "last" "I", .fieldLink RX4 21 "WrongClocks$Tally" "runs" "I"] ++ wsX40)
def wsX5_init : List Cond := .code yX5_init cX5_init 1 none :: ([.methodLink RX5 3 objectInit, .instanceMethod objectInit, .code objectInit ⟨#[0xb1]⟩ 1 none, .arrayClass .int, .fieldLink RX5 9 "WrongClocks$Text" "bytes" "[I", .fieldLink RX5 15 "WrongClocks$Text" "length" "I", .fieldLink RX5 19 "WrongClocks$Text" "rows" "[I", .fieldLink RX5 22 "WrongClocks$Text" "lineCount" "I", .fieldLink RX5 25 "WrongClocks$Text" "start" "I", .fieldLink RX5 28 "WrongClocks$Text" "end" "I"] ++ wsX50)
def wsX5_put : List Cond := .code yX5_put cX5_put 2 none :: ([.fieldLink RX5 15 "WrongClocks$Text" "length" "I", .fieldLink RX5 9 "WrongClocks$Text" "bytes" "[I"] ++ wsX50)
def wsX5_signAt : List Cond := .code yX5_signAt cX5_signAt 2 (some .int) :: ([.fieldLink RX5 15 "WrongClocks$Text" "length" "I", .fieldLink RX5 9 "WrongClocks$Text" "bytes" "[I"] ++ wsX50)
def wsX5_isLetter : List Cond := .code yX5_isLetter cX5_isLetter 1 (some .boolean) :: ([])
def wsX5_isDigit : List Cond := .code yX5_isDigit cX5_isDigit 1 (some .boolean) :: ([])
def wsX5_takeToken : List Cond := .code yX5_takeToken cX5_takeToken 1 none :: ([.fieldLink RX5 28 "WrongClocks$Text" "end" "I", .fieldLink RX5 25 "WrongClocks$Text" "start" "I", .fieldLink RX5 15 "WrongClocks$Text" "length" "I", .methodLink RX5 45 yX5_signAt, .instanceMethod yX5_signAt, .selects RX5 yX5_signAt yX5_signAt, .initialized RX5, .code yX5_signAt cX5_signAt 2 (some .int), .fieldLink RX5 9 "WrongClocks$Text" "bytes" "[I", .methodLink RX5 75 yX5_isLetter, .static yX5_isLetter, .code yX5_isLetter cX5_isLetter 1 (some .boolean), .methodLink RX5 79 yX5_isDigit, .static yX5_isDigit, .code yX5_isDigit cX5_isDigit 1 (some .boolean)] ++ wsX50)
def wsX5_wordOf : List Cond := .code yX5_wordOf cX5_wordOf 1 (some (.object "java/lang/String")) :: ([])
def wsJ0_coder_7d493 : List Cond := .code yJ0_coder_7d493 cJ0_coder_7d493 1 (some .byte) :: ([.fieldLink RJ0 38 "java/lang/String" "COMPACT_STRINGS" "Z", .fieldLink RJ0 15 "java/lang/String" "coder" "B"])
def wsJ0_length_8abf5 : List Cond := .code yJ0_length_8abf5 cJ0_length_8abf5 1 (some .int) :: ([.fieldLink RJ0 9 "java/lang/String" "value" "[B", .methodLink RJ0 335 yJ0_coder_7d493, .instanceMethod yJ0_coder_7d493, .selects RJ0 yJ0_coder_7d493 yJ0_coder_7d493, .initialized RJ0, .code yJ0_coder_7d493 cJ0_coder_7d493 1 (some .byte), .fieldLink RJ0 38 "java/lang/String" "COMPACT_STRINGS" "Z", .fieldLink RJ0 15 "java/lang/String" "coder" "B"])
def wsJ0_isLatin1_aae02 : List Cond := .code yJ0_isLatin1_aae02 cJ0_isLatin1_aae02 1 (some .boolean) :: ([.fieldLink RJ0 38 "java/lang/String" "COMPACT_STRINGS" "Z", .fieldLink RJ0 15 "java/lang/String" "coder" "B"])
def wsJ3_checkIndex_8e157 : List Cond := .code yJ3_checkIndex_8e157 cJ3_checkIndex_8e157 3 (some .int) :: ([])
def wsJ0_checkIndex_df160 : List Cond := .code yJ0_checkIndex_df160 cJ0_checkIndex_df160 2 none :: ([.fieldLink RJ0 1053 "jdk/internal/util/Preconditions" "SIOOBE_FORMATTER" "Ljava/util/function/BiFunction;", .methodLink RJ0 1059 yJ3_checkIndex_8e157, .static yJ3_checkIndex_8e157, .initialized RJ3, .code yJ3_checkIndex_8e157 cJ3_checkIndex_8e157 3 (some .int)])
def wsJ1_charAt_3b067 : List Cond := .code yJ1_charAt_3b067 cJ1_charAt_3b067 2 (some .char) :: ([.methodLink RJ1 9 yJ0_checkIndex_df160, .static yJ0_checkIndex_df160, .initialized RJ0, .code yJ0_checkIndex_df160 cJ0_checkIndex_df160 2 none, .fieldLink RJ0 1053 "jdk/internal/util/Preconditions" "SIOOBE_FORMATTER" "Ljava/util/function/BiFunction;", .methodLink RJ0 1059 yJ3_checkIndex_8e157, .static yJ3_checkIndex_8e157, .initialized RJ3, .code yJ3_checkIndex_8e157 cJ3_checkIndex_8e157 3 (some .int)])
def wsJ2_length_9d52b : List Cond := .code yJ2_length_9d52b cJ2_length_9d52b 1 (some .int) :: ([])
def wsJ2_checkIndex_2214a : List Cond := .code yJ2_checkIndex_2214a cJ2_checkIndex_2214a 2 none :: ([.methodLink RJ2 48 yJ2_length_9d52b, .static yJ2_length_9d52b, .initialized RJ2, .code yJ2_length_9d52b cJ2_length_9d52b 1 (some .int), .methodLink RJ2 414 yJ0_checkIndex_df160, .static yJ0_checkIndex_df160, .initialized RJ0, .code yJ0_checkIndex_df160 cJ0_checkIndex_df160 2 none, .fieldLink RJ0 1053 "jdk/internal/util/Preconditions" "SIOOBE_FORMATTER" "Ljava/util/function/BiFunction;", .methodLink RJ0 1059 yJ3_checkIndex_8e157, .static yJ3_checkIndex_8e157, .initialized RJ3, .code yJ3_checkIndex_8e157 cJ3_checkIndex_8e157 3 (some .int)])
def wsJ2_getChar_3b067 : List Cond := .code yJ2_getChar_3b067 cJ2_getChar_3b067 2 (some .char) :: ([.fieldLink RJ2 44 "java/lang/StringUTF16" "$assertionsDisabled" "Z", .fieldLink RJ2 59 "java/lang/StringUTF16" "HI_BYTE_SHIFT" "I", .fieldLink RJ2 63 "java/lang/StringUTF16" "LO_BYTE_SHIFT" "I", .methodLink RJ2 48 yJ2_length_9d52b, .static yJ2_length_9d52b, .initialized RJ2, .code yJ2_length_9d52b cJ2_length_9d52b 1 (some .int)])
def wsJ2_charAt_3b067 : List Cond := .code yJ2_charAt_3b067 cJ2_charAt_3b067 2 (some .char) :: ([.methodLink RJ2 67 yJ2_checkIndex_2214a, .static yJ2_checkIndex_2214a, .initialized RJ2, .code yJ2_checkIndex_2214a cJ2_checkIndex_2214a 2 none, .methodLink RJ2 48 yJ2_length_9d52b, .static yJ2_length_9d52b, .code yJ2_length_9d52b cJ2_length_9d52b 1 (some .int), .methodLink RJ2 414 yJ0_checkIndex_df160, .static yJ0_checkIndex_df160, .initialized RJ0, .code yJ0_checkIndex_df160 cJ0_checkIndex_df160 2 none, .fieldLink RJ0 1053 "jdk/internal/util/Preconditions" "SIOOBE_FORMATTER" "Ljava/util/function/BiFunction;", .methodLink RJ0 1059 yJ3_checkIndex_8e157, .static yJ3_checkIndex_8e157, .initialized RJ3, .code yJ3_checkIndex_8e157 cJ3_checkIndex_8e157 3 (some .int), .methodLink RJ2 71 yJ2_getChar_3b067, .static yJ2_getChar_3b067, .code yJ2_getChar_3b067 cJ2_getChar_3b067 2 (some .char), .fieldLink RJ2 44 "java/lang/StringUTF16" "$assertionsDisabled" "Z", .fieldLink RJ2 59 "java/lang/StringUTF16" "HI_BYTE_SHIFT" "I", .fieldLink RJ2 63 "java/lang/StringUTF16" "LO_BYTE_SHIFT" "I"])
def wsJ0_charAt_5068e_r1 : List Cond := [Cond.fieldLink RJ0 9 "java/lang/String" "value" "[B", Cond.methodLink RJ0 492 yJ0_isLatin1_aae02, Cond.instanceMethod yJ0_isLatin1_aae02, Cond.selects RJ0 yJ0_isLatin1_aae02 yJ0_isLatin1_aae02, Cond.initialized RJ0, Cond.code yJ0_isLatin1_aae02 cJ0_isLatin1_aae02 1 (some .boolean), Cond.fieldLink RJ0 38 "java/lang/String" "COMPACT_STRINGS" "Z", Cond.fieldLink RJ0 15 "java/lang/String" "coder" "B", Cond.methodLink RJ0 495 yJ1_charAt_3b067, Cond.static yJ1_charAt_3b067, Cond.initialized RJ1, Cond.code yJ1_charAt_3b067 cJ1_charAt_3b067 2 (some .char), Cond.methodLink RJ1 9 yJ0_checkIndex_df160, Cond.static yJ0_checkIndex_df160, Cond.code yJ0_checkIndex_df160 cJ0_checkIndex_df160 2 none, Cond.fieldLink RJ0 1053 "jdk/internal/util/Preconditions" "SIOOBE_FORMATTER" "Ljava/util/function/BiFunction;", Cond.methodLink RJ0 1059 yJ3_checkIndex_8e157, Cond.static yJ3_checkIndex_8e157, Cond.initialized RJ3, Cond.code yJ3_checkIndex_8e157 cJ3_checkIndex_8e157 3 (some .int), Cond.methodLink RJ0 498 yJ2_charAt_3b067, Cond.static yJ2_charAt_3b067, Cond.initialized RJ2, Cond.code yJ2_charAt_3b067 cJ2_charAt_3b067 2 (some .char)]
def wsJ0_charAt_5068e_r2 : List Cond := [Cond.methodLink RJ2 67 yJ2_checkIndex_2214a, Cond.static yJ2_checkIndex_2214a, Cond.code yJ2_checkIndex_2214a cJ2_checkIndex_2214a 2 none, Cond.methodLink RJ2 48 yJ2_length_9d52b, Cond.static yJ2_length_9d52b, Cond.code yJ2_length_9d52b cJ2_length_9d52b 1 (some .int), Cond.methodLink RJ2 414 yJ0_checkIndex_df160, Cond.methodLink RJ2 71 yJ2_getChar_3b067, Cond.static yJ2_getChar_3b067, Cond.code yJ2_getChar_3b067 cJ2_getChar_3b067 2 (some .char), Cond.fieldLink RJ2 44 "java/lang/StringUTF16" "$assertionsDisabled" "Z", Cond.fieldLink RJ2 59 "java/lang/StringUTF16" "HI_BYTE_SHIFT" "I", Cond.fieldLink RJ2 63 "java/lang/StringUTF16" "LO_BYTE_SHIFT" "I"]
def wsJ0_charAt_5068e : List Cond := .code yJ0_charAt_5068e cJ0_charAt_5068e 2 (some .char) :: ((wsJ0_charAt_5068e_r1 ++ wsJ0_charAt_5068e_r2))
def wsX5_isTaken_r1 : List Cond := [Cond.fieldLink RX5 28 "WrongClocks$Text" "end" "I", Cond.fieldLink RX5 25 "WrongClocks$Text" "start" "I", Cond.methodLink RX5 57 yJ0_length_8abf5, Cond.instanceMethod yJ0_length_8abf5, Cond.selects RJ0 yJ0_length_8abf5 yJ0_length_8abf5, Cond.initialized RJ0, Cond.code yJ0_length_8abf5 cJ0_length_8abf5 1 (some .int), Cond.fieldLink RJ0 9 "java/lang/String" "value" "[B", Cond.methodLink RJ0 335 yJ0_coder_7d493, Cond.instanceMethod yJ0_coder_7d493, Cond.selects RJ0 yJ0_coder_7d493 yJ0_coder_7d493, Cond.code yJ0_coder_7d493 cJ0_coder_7d493 1 (some .byte), Cond.fieldLink RJ0 38 "java/lang/String" "COMPACT_STRINGS" "Z", Cond.fieldLink RJ0 15 "java/lang/String" "coder" "B", Cond.methodLink RX5 45 yX5_signAt, Cond.instanceMethod yX5_signAt, Cond.selects RX5 yX5_signAt yX5_signAt, Cond.initialized RX5, Cond.code yX5_signAt cX5_signAt 2 (some .int), Cond.fieldLink RX5 15 "WrongClocks$Text" "length" "I", Cond.fieldLink RX5 9 "WrongClocks$Text" "bytes" "[I", Cond.methodLink RX5 61 yJ0_charAt_5068e, Cond.instanceMethod yJ0_charAt_5068e, Cond.selects RJ0 yJ0_charAt_5068e yJ0_charAt_5068e]
def wsX5_isTaken_r2 : List Cond := [Cond.code yJ0_charAt_5068e cJ0_charAt_5068e 2 (some .char), Cond.methodLink RJ0 492 yJ0_isLatin1_aae02, Cond.instanceMethod yJ0_isLatin1_aae02, Cond.selects RJ0 yJ0_isLatin1_aae02 yJ0_isLatin1_aae02, Cond.code yJ0_isLatin1_aae02 cJ0_isLatin1_aae02 1 (some .boolean), Cond.methodLink RJ0 495 yJ1_charAt_3b067, Cond.static yJ1_charAt_3b067, Cond.initialized RJ1, Cond.code yJ1_charAt_3b067 cJ1_charAt_3b067 2 (some .char), Cond.methodLink RJ1 9 yJ0_checkIndex_df160, Cond.static yJ0_checkIndex_df160, Cond.code yJ0_checkIndex_df160 cJ0_checkIndex_df160 2 none, Cond.fieldLink RJ0 1053 "jdk/internal/util/Preconditions" "SIOOBE_FORMATTER" "Ljava/util/function/BiFunction;", Cond.methodLink RJ0 1059 yJ3_checkIndex_8e157, Cond.static yJ3_checkIndex_8e157, Cond.initialized RJ3, Cond.code yJ3_checkIndex_8e157 cJ3_checkIndex_8e157 3 (some .int), Cond.methodLink RJ0 498 yJ2_charAt_3b067, Cond.static yJ2_charAt_3b067, Cond.initialized RJ2, Cond.code yJ2_charAt_3b067 cJ2_charAt_3b067 2 (some .char), Cond.methodLink RJ2 67 yJ2_checkIndex_2214a, Cond.static yJ2_checkIndex_2214a, Cond.code yJ2_checkIndex_2214a cJ2_checkIndex_2214a 2 none]
def wsX5_isTaken_r3 : List Cond := [Cond.methodLink RJ2 48 yJ2_length_9d52b, Cond.static yJ2_length_9d52b, Cond.code yJ2_length_9d52b cJ2_length_9d52b 1 (some .int), Cond.methodLink RJ2 414 yJ0_checkIndex_df160, Cond.methodLink RJ2 71 yJ2_getChar_3b067, Cond.static yJ2_getChar_3b067, Cond.code yJ2_getChar_3b067 cJ2_getChar_3b067 2 (some .char), Cond.fieldLink RJ2 44 "java/lang/StringUTF16" "$assertionsDisabled" "Z", Cond.fieldLink RJ2 59 "java/lang/StringUTF16" "HI_BYTE_SHIFT" "I", Cond.fieldLink RJ2 63 "java/lang/StringUTF16" "LO_BYTE_SHIFT" "I"]
def wsX5_isTaken : List Cond := .code yX5_isTaken cX5_isTaken 3 (some .boolean) :: ((wsX5_isTaken_r1 ++ (wsX5_isTaken_r2 ++ wsX5_isTaken_r3)) ++ wsX50)
def wsX5_wordTaken_r1 : List Cond := [Cond.methodLink RX5 82 yX5_wordOf, Cond.static yX5_wordOf, Cond.initialized RX5, Cond.code yX5_wordOf cX5_wordOf 1 (some (.object "java/lang/String")), Cond.methodLink RX5 85 yX5_isTaken, Cond.instanceMethod yX5_isTaken, Cond.selects RX5 yX5_isTaken yX5_isTaken, Cond.code yX5_isTaken cX5_isTaken 3 (some .boolean), Cond.fieldLink RX5 28 "WrongClocks$Text" "end" "I", Cond.fieldLink RX5 25 "WrongClocks$Text" "start" "I", Cond.methodLink RX5 57 yJ0_length_8abf5, Cond.instanceMethod yJ0_length_8abf5, Cond.selects RJ0 yJ0_length_8abf5 yJ0_length_8abf5, Cond.initialized RJ0, Cond.code yJ0_length_8abf5 cJ0_length_8abf5 1 (some .int), Cond.fieldLink RJ0 9 "java/lang/String" "value" "[B", Cond.methodLink RJ0 335 yJ0_coder_7d493, Cond.instanceMethod yJ0_coder_7d493, Cond.selects RJ0 yJ0_coder_7d493 yJ0_coder_7d493, Cond.code yJ0_coder_7d493 cJ0_coder_7d493 1 (some .byte), Cond.fieldLink RJ0 38 "java/lang/String" "COMPACT_STRINGS" "Z", Cond.fieldLink RJ0 15 "java/lang/String" "coder" "B", Cond.methodLink RX5 45 yX5_signAt, Cond.instanceMethod yX5_signAt]
def wsX5_wordTaken_r2 : List Cond := [Cond.selects RX5 yX5_signAt yX5_signAt, Cond.code yX5_signAt cX5_signAt 2 (some .int), Cond.fieldLink RX5 15 "WrongClocks$Text" "length" "I", Cond.fieldLink RX5 9 "WrongClocks$Text" "bytes" "[I", Cond.methodLink RX5 61 yJ0_charAt_5068e, Cond.instanceMethod yJ0_charAt_5068e, Cond.selects RJ0 yJ0_charAt_5068e yJ0_charAt_5068e, Cond.code yJ0_charAt_5068e cJ0_charAt_5068e 2 (some .char), Cond.methodLink RJ0 492 yJ0_isLatin1_aae02, Cond.instanceMethod yJ0_isLatin1_aae02, Cond.selects RJ0 yJ0_isLatin1_aae02 yJ0_isLatin1_aae02, Cond.code yJ0_isLatin1_aae02 cJ0_isLatin1_aae02 1 (some .boolean), Cond.methodLink RJ0 495 yJ1_charAt_3b067, Cond.static yJ1_charAt_3b067, Cond.initialized RJ1, Cond.code yJ1_charAt_3b067 cJ1_charAt_3b067 2 (some .char), Cond.methodLink RJ1 9 yJ0_checkIndex_df160, Cond.static yJ0_checkIndex_df160, Cond.code yJ0_checkIndex_df160 cJ0_checkIndex_df160 2 none, Cond.fieldLink RJ0 1053 "jdk/internal/util/Preconditions" "SIOOBE_FORMATTER" "Ljava/util/function/BiFunction;", Cond.methodLink RJ0 1059 yJ3_checkIndex_8e157, Cond.static yJ3_checkIndex_8e157, Cond.initialized RJ3, Cond.code yJ3_checkIndex_8e157 cJ3_checkIndex_8e157 3 (some .int)]
def wsX5_wordTaken_r3 : List Cond := [Cond.methodLink RJ0 498 yJ2_charAt_3b067, Cond.static yJ2_charAt_3b067, Cond.initialized RJ2, Cond.code yJ2_charAt_3b067 cJ2_charAt_3b067 2 (some .char), Cond.methodLink RJ2 67 yJ2_checkIndex_2214a, Cond.static yJ2_checkIndex_2214a, Cond.code yJ2_checkIndex_2214a cJ2_checkIndex_2214a 2 none, Cond.methodLink RJ2 48 yJ2_length_9d52b, Cond.static yJ2_length_9d52b, Cond.code yJ2_length_9d52b cJ2_length_9d52b 1 (some .int), Cond.methodLink RJ2 414 yJ0_checkIndex_df160, Cond.methodLink RJ2 71 yJ2_getChar_3b067, Cond.static yJ2_getChar_3b067, Cond.code yJ2_getChar_3b067 cJ2_getChar_3b067 2 (some .char), Cond.fieldLink RJ2 44 "java/lang/StringUTF16" "$assertionsDisabled" "Z", Cond.fieldLink RJ2 59 "java/lang/StringUTF16" "HI_BYTE_SHIFT" "I", Cond.fieldLink RJ2 63 "java/lang/StringUTF16" "LO_BYTE_SHIFT" "I"]
def wsX5_wordTaken : List Cond := .code yX5_wordTaken cX5_wordTaken 2 (some .int) :: ((wsX5_wordTaken_r1 ++ (wsX5_wordTaken_r2 ++ wsX5_wordTaken_r3)) ++ wsX50)
def wsX5_numbersOf : List Cond := .code yX5_numbersOf cX5_numbersOf 1 (some (.object "java/lang/String")) :: ([])
def wsX5_numberTaken : List Cond := .code yX5_numberTaken cX5_numberTaken 3 (some .int) :: ([.fieldLink RX5 28 "WrongClocks$Text" "end" "I", .fieldLink RX5 25 "WrongClocks$Text" "start" "I", .methodLink RX5 45 yX5_signAt, .instanceMethod yX5_signAt, .selects RX5 yX5_signAt yX5_signAt, .initialized RX5, .code yX5_signAt cX5_signAt 2 (some .int), .fieldLink RX5 15 "WrongClocks$Text" "length" "I", .fieldLink RX5 9 "WrongClocks$Text" "bytes" "[I", .methodLink RX5 79 yX5_isDigit, .static yX5_isDigit, .code yX5_isDigit cX5_isDigit 1 (some .boolean)] ++ wsX50)
def wsX5_mostOf : List Cond := .code yX5_mostOf cX5_mostOf 1 (some .int) :: ([])
def wsX5_takeLine_r1 : List Cond := [Cond.fieldLink RX5 19 "WrongClocks$Text" "rows" "[I", Cond.methodLink RX5 42 yX5_takeToken, Cond.instanceMethod yX5_takeToken, Cond.selects RX5 yX5_takeToken yX5_takeToken, Cond.initialized RX5, Cond.code yX5_takeToken cX5_takeToken 1 none, Cond.fieldLink RX5 28 "WrongClocks$Text" "end" "I", Cond.fieldLink RX5 25 "WrongClocks$Text" "start" "I", Cond.fieldLink RX5 15 "WrongClocks$Text" "length" "I", Cond.methodLink RX5 45 yX5_signAt, Cond.instanceMethod yX5_signAt, Cond.selects RX5 yX5_signAt yX5_signAt, Cond.code yX5_signAt cX5_signAt 2 (some .int), Cond.fieldLink RX5 9 "WrongClocks$Text" "bytes" "[I", Cond.methodLink RX5 75 yX5_isLetter, Cond.static yX5_isLetter, Cond.code yX5_isLetter cX5_isLetter 1 (some .boolean), Cond.methodLink RX5 79 yX5_isDigit, Cond.static yX5_isDigit, Cond.code yX5_isDigit cX5_isDigit 1 (some .boolean), Cond.methodLink RX5 49 yX5_wordTaken, Cond.instanceMethod yX5_wordTaken, Cond.selects RX5 yX5_wordTaken yX5_wordTaken, Cond.code yX5_wordTaken cX5_wordTaken 2 (some .int)]
def wsX5_takeLine_r2 : List Cond := [Cond.methodLink RX5 82 yX5_wordOf, Cond.static yX5_wordOf, Cond.code yX5_wordOf cX5_wordOf 1 (some (.object "java/lang/String")), Cond.methodLink RX5 85 yX5_isTaken, Cond.instanceMethod yX5_isTaken, Cond.selects RX5 yX5_isTaken yX5_isTaken, Cond.code yX5_isTaken cX5_isTaken 3 (some .boolean), Cond.methodLink RX5 57 yJ0_length_8abf5, Cond.instanceMethod yJ0_length_8abf5, Cond.selects RJ0 yJ0_length_8abf5 yJ0_length_8abf5, Cond.initialized RJ0, Cond.code yJ0_length_8abf5 cJ0_length_8abf5 1 (some .int), Cond.fieldLink RJ0 9 "java/lang/String" "value" "[B", Cond.methodLink RJ0 335 yJ0_coder_7d493, Cond.instanceMethod yJ0_coder_7d493, Cond.selects RJ0 yJ0_coder_7d493 yJ0_coder_7d493, Cond.code yJ0_coder_7d493 cJ0_coder_7d493 1 (some .byte), Cond.fieldLink RJ0 38 "java/lang/String" "COMPACT_STRINGS" "Z", Cond.fieldLink RJ0 15 "java/lang/String" "coder" "B", Cond.methodLink RX5 61 yJ0_charAt_5068e, Cond.instanceMethod yJ0_charAt_5068e, Cond.selects RJ0 yJ0_charAt_5068e yJ0_charAt_5068e, Cond.code yJ0_charAt_5068e cJ0_charAt_5068e 2 (some .char), Cond.methodLink RJ0 492 yJ0_isLatin1_aae02]
def wsX5_takeLine_r3 : List Cond := [Cond.instanceMethod yJ0_isLatin1_aae02, Cond.selects RJ0 yJ0_isLatin1_aae02 yJ0_isLatin1_aae02, Cond.code yJ0_isLatin1_aae02 cJ0_isLatin1_aae02 1 (some .boolean), Cond.methodLink RJ0 495 yJ1_charAt_3b067, Cond.static yJ1_charAt_3b067, Cond.initialized RJ1, Cond.code yJ1_charAt_3b067 cJ1_charAt_3b067 2 (some .char), Cond.methodLink RJ1 9 yJ0_checkIndex_df160, Cond.static yJ0_checkIndex_df160, Cond.code yJ0_checkIndex_df160 cJ0_checkIndex_df160 2 none, Cond.fieldLink RJ0 1053 "jdk/internal/util/Preconditions" "SIOOBE_FORMATTER" "Ljava/util/function/BiFunction;", Cond.methodLink RJ0 1059 yJ3_checkIndex_8e157, Cond.static yJ3_checkIndex_8e157, Cond.initialized RJ3, Cond.code yJ3_checkIndex_8e157 cJ3_checkIndex_8e157 3 (some .int), Cond.methodLink RJ0 498 yJ2_charAt_3b067, Cond.static yJ2_charAt_3b067, Cond.initialized RJ2, Cond.code yJ2_charAt_3b067 cJ2_charAt_3b067 2 (some .char), Cond.methodLink RJ2 67 yJ2_checkIndex_2214a, Cond.static yJ2_checkIndex_2214a, Cond.code yJ2_checkIndex_2214a cJ2_checkIndex_2214a 2 none, Cond.methodLink RJ2 48 yJ2_length_9d52b, Cond.static yJ2_length_9d52b]
def wsX5_takeLine_r4 : List Cond := [Cond.code yJ2_length_9d52b cJ2_length_9d52b 1 (some .int), Cond.methodLink RJ2 414 yJ0_checkIndex_df160, Cond.methodLink RJ2 71 yJ2_getChar_3b067, Cond.static yJ2_getChar_3b067, Cond.code yJ2_getChar_3b067 cJ2_getChar_3b067 2 (some .char), Cond.fieldLink RJ2 44 "java/lang/StringUTF16" "$assertionsDisabled" "Z", Cond.fieldLink RJ2 59 "java/lang/StringUTF16" "HI_BYTE_SHIFT" "I", Cond.fieldLink RJ2 63 "java/lang/StringUTF16" "LO_BYTE_SHIFT" "I", Cond.static yX6_isBelow, Cond.initialized RX6, Cond.code yX6_isBelow cX6_isBelow 2 (some .boolean), Cond.methodLink RX5 53 yX5_numbersOf, Cond.static yX5_numbersOf, Cond.code yX5_numbersOf cX5_numbersOf 1 (some (.object "java/lang/String")), Cond.methodLink RX5 65 yX5_numberTaken, Cond.instanceMethod yX5_numberTaken, Cond.selects RX5 yX5_numberTaken yX5_numberTaken, Cond.code yX5_numberTaken cX5_numberTaken 3 (some .int), Cond.methodLink RX5 68 yX5_mostOf, Cond.static yX5_mostOf, Cond.code yX5_mostOf cX5_mostOf 1 (some .int)]
def wsX5_takeLine : List Cond := .code yX5_takeLine cX5_takeLine 10 (some .boolean) :: ((wsX5_takeLine_r1 ++ (wsX5_takeLine_r2 ++ (wsX5_takeLine_r3 ++ wsX5_takeLine_r4))) ++ wsX50)
def wsX5_knownBehind : List Cond := .code yX5_knownBehind cX5_knownBehind 4 (some .int) :: ([.methodLink RX5 72 yX5_number, .instanceMethod yX5_number, .selects RX5 yX5_number yX5_number, .initialized RX5, .code yX5_number cX5_number 3 (some .int), .fieldLink RX5 19 "WrongClocks$Text" "rows" "[I", .static yX6_isBelow, .initialized RX6, .code yX6_isBelow cX6_isBelow 2 (some .boolean)] ++ wsX50)
def wsX5_findFault_r1 : List Cond := [Cond.fieldLink RX5 28 "WrongClocks$Text" "end" "I", Cond.fieldLink RX5 22 "WrongClocks$Text" "lineCount" "I", Cond.fieldLink RX5 25 "WrongClocks$Text" "start" "I", Cond.fieldLink RX5 15 "WrongClocks$Text" "length" "I", Cond.methodLink RX5 35 yX5_takeLine, Cond.instanceMethod yX5_takeLine, Cond.selects RX5 yX5_takeLine yX5_takeLine, Cond.initialized RX5, Cond.code yX5_takeLine cX5_takeLine 10 (some .boolean), Cond.fieldLink RX5 19 "WrongClocks$Text" "rows" "[I", Cond.methodLink RX5 42 yX5_takeToken, Cond.instanceMethod yX5_takeToken, Cond.selects RX5 yX5_takeToken yX5_takeToken, Cond.code yX5_takeToken cX5_takeToken 1 none, Cond.methodLink RX5 45 yX5_signAt, Cond.instanceMethod yX5_signAt, Cond.selects RX5 yX5_signAt yX5_signAt, Cond.code yX5_signAt cX5_signAt 2 (some .int), Cond.fieldLink RX5 9 "WrongClocks$Text" "bytes" "[I", Cond.methodLink RX5 75 yX5_isLetter, Cond.static yX5_isLetter, Cond.code yX5_isLetter cX5_isLetter 1 (some .boolean), Cond.methodLink RX5 79 yX5_isDigit, Cond.static yX5_isDigit]
def wsX5_findFault_r2 : List Cond := [Cond.code yX5_isDigit cX5_isDigit 1 (some .boolean), Cond.methodLink RX5 49 yX5_wordTaken, Cond.instanceMethod yX5_wordTaken, Cond.selects RX5 yX5_wordTaken yX5_wordTaken, Cond.code yX5_wordTaken cX5_wordTaken 2 (some .int), Cond.methodLink RX5 82 yX5_wordOf, Cond.static yX5_wordOf, Cond.code yX5_wordOf cX5_wordOf 1 (some (.object "java/lang/String")), Cond.methodLink RX5 85 yX5_isTaken, Cond.instanceMethod yX5_isTaken, Cond.selects RX5 yX5_isTaken yX5_isTaken, Cond.code yX5_isTaken cX5_isTaken 3 (some .boolean), Cond.methodLink RX5 57 yJ0_length_8abf5, Cond.instanceMethod yJ0_length_8abf5, Cond.selects RJ0 yJ0_length_8abf5 yJ0_length_8abf5, Cond.initialized RJ0, Cond.code yJ0_length_8abf5 cJ0_length_8abf5 1 (some .int), Cond.fieldLink RJ0 9 "java/lang/String" "value" "[B", Cond.methodLink RJ0 335 yJ0_coder_7d493, Cond.instanceMethod yJ0_coder_7d493, Cond.selects RJ0 yJ0_coder_7d493 yJ0_coder_7d493, Cond.code yJ0_coder_7d493 cJ0_coder_7d493 1 (some .byte), Cond.fieldLink RJ0 38 "java/lang/String" "COMPACT_STRINGS" "Z", Cond.fieldLink RJ0 15 "java/lang/String" "coder" "B"]
def wsX5_findFault_r3 : List Cond := [Cond.methodLink RX5 61 yJ0_charAt_5068e, Cond.instanceMethod yJ0_charAt_5068e, Cond.selects RJ0 yJ0_charAt_5068e yJ0_charAt_5068e, Cond.code yJ0_charAt_5068e cJ0_charAt_5068e 2 (some .char), Cond.methodLink RJ0 492 yJ0_isLatin1_aae02, Cond.instanceMethod yJ0_isLatin1_aae02, Cond.selects RJ0 yJ0_isLatin1_aae02 yJ0_isLatin1_aae02, Cond.code yJ0_isLatin1_aae02 cJ0_isLatin1_aae02 1 (some .boolean), Cond.methodLink RJ0 495 yJ1_charAt_3b067, Cond.static yJ1_charAt_3b067, Cond.initialized RJ1, Cond.code yJ1_charAt_3b067 cJ1_charAt_3b067 2 (some .char), Cond.methodLink RJ1 9 yJ0_checkIndex_df160, Cond.static yJ0_checkIndex_df160, Cond.code yJ0_checkIndex_df160 cJ0_checkIndex_df160 2 none, Cond.fieldLink RJ0 1053 "jdk/internal/util/Preconditions" "SIOOBE_FORMATTER" "Ljava/util/function/BiFunction;", Cond.methodLink RJ0 1059 yJ3_checkIndex_8e157, Cond.static yJ3_checkIndex_8e157, Cond.initialized RJ3, Cond.code yJ3_checkIndex_8e157 cJ3_checkIndex_8e157 3 (some .int), Cond.methodLink RJ0 498 yJ2_charAt_3b067, Cond.static yJ2_charAt_3b067, Cond.initialized RJ2, Cond.code yJ2_charAt_3b067 cJ2_charAt_3b067 2 (some .char)]
def wsX5_findFault_r4 : List Cond := [Cond.methodLink RJ2 67 yJ2_checkIndex_2214a, Cond.static yJ2_checkIndex_2214a, Cond.code yJ2_checkIndex_2214a cJ2_checkIndex_2214a 2 none, Cond.methodLink RJ2 48 yJ2_length_9d52b, Cond.static yJ2_length_9d52b, Cond.code yJ2_length_9d52b cJ2_length_9d52b 1 (some .int), Cond.methodLink RJ2 414 yJ0_checkIndex_df160, Cond.methodLink RJ2 71 yJ2_getChar_3b067, Cond.static yJ2_getChar_3b067, Cond.code yJ2_getChar_3b067 cJ2_getChar_3b067 2 (some .char), Cond.fieldLink RJ2 44 "java/lang/StringUTF16" "$assertionsDisabled" "Z", Cond.fieldLink RJ2 59 "java/lang/StringUTF16" "HI_BYTE_SHIFT" "I", Cond.fieldLink RJ2 63 "java/lang/StringUTF16" "LO_BYTE_SHIFT" "I", Cond.static yX6_isBelow, Cond.initialized RX6, Cond.code yX6_isBelow cX6_isBelow 2 (some .boolean), Cond.methodLink RX5 53 yX5_numbersOf, Cond.static yX5_numbersOf, Cond.code yX5_numbersOf cX5_numbersOf 1 (some (.object "java/lang/String")), Cond.methodLink RX5 65 yX5_numberTaken, Cond.instanceMethod yX5_numberTaken, Cond.selects RX5 yX5_numberTaken yX5_numberTaken, Cond.code yX5_numberTaken cX5_numberTaken 3 (some .int), Cond.methodLink RX5 68 yX5_mostOf]
def wsX5_findFault_r5 : List Cond := [Cond.static yX5_mostOf, Cond.code yX5_mostOf cX5_mostOf 1 (some .int), Cond.methodLink RX5 38 yX5_knownBehind, Cond.instanceMethod yX5_knownBehind, Cond.selects RX5 yX5_knownBehind yX5_knownBehind, Cond.code yX5_knownBehind cX5_knownBehind 4 (some .int), Cond.methodLink RX5 72 yX5_number, Cond.instanceMethod yX5_number, Cond.selects RX5 yX5_number yX5_number, Cond.code yX5_number cX5_number 3 (some .int)]
def wsX5_findFault : List Cond := .code yX5_findFault cX5_findFault 4 (some .int) :: ((wsX5_findFault_r1 ++ (wsX5_findFault_r2 ++ (wsX5_findFault_r3 ++ (wsX5_findFault_r4 ++ wsX5_findFault_r5)))) ++ wsX50)
def wsX6_init_r1 : List Cond := [Cond.methodLink RX6 3 objectInit, Cond.instanceMethod objectInit, Cond.code objectInit ⟨#[0xb1]⟩ 1 none, Cond.classLink RX6 9 RX5, Cond.instantiable RX5 6, Cond.initialized RX5, Cond.fieldLink RX6 12 "WrongClocks" "text" "LWrongClocks$Text;", Cond.classLink RX6 16 RX1, Cond.instantiable RX1 3, Cond.initialized RX1, Cond.fieldLink RX6 19 "WrongClocks" "present" "LWrongClocks$House;", Cond.fieldLink RX6 23 "WrongClocks" "kept" "[LWrongClocks$House;", Cond.classLink RX6 27 RX4, Cond.instantiable RX4 4, Cond.initialized RX4, Cond.fieldLink RX6 30 "WrongClocks" "tally" "LWrongClocks$Tally;", Cond.classLink RX6 34 RX0, Cond.instantiable RX0 6, Cond.initialized RX0, Cond.fieldLink RX6 37 "WrongClocks" "trial" "LWrongClocks$Clock;", Cond.classLink RX6 41 RX3, Cond.instantiable RX3 4, Cond.initialized RX3, Cond.fieldLink RX6 44 "WrongClocks" "queue" "LWrongClocks$Queue;"]
def wsX6_init_r2 : List Cond := [Cond.arrayClass .int, Cond.fieldLink RX6 48 "WrongClocks" "misfits" "[I", Cond.fieldLink RX6 52 "WrongClocks" "sifted" "Z", Cond.fieldLink RX6 56 "WrongClocks" "shown" "[I", Cond.instanceMethod yX5_init, Cond.code yX5_init cX5_init 1 none, Cond.methodLink RX5 3 objectInit, Cond.fieldLink RX5 9 "WrongClocks$Text" "bytes" "[I", Cond.fieldLink RX5 15 "WrongClocks$Text" "length" "I", Cond.fieldLink RX5 19 "WrongClocks$Text" "rows" "[I", Cond.fieldLink RX5 22 "WrongClocks$Text" "lineCount" "I", Cond.fieldLink RX5 25 "WrongClocks$Text" "start" "I", Cond.fieldLink RX5 28 "WrongClocks$Text" "end" "I", Cond.methodLink RX6 18 yX1_init, Cond.instanceMethod yX1_init, Cond.code yX1_init cX1_init 2 none, Cond.methodLink RX1 3 objectInit, Cond.fieldLink RX1 9 "WrongClocks$House" "filled" "Z", Cond.classLink RX1 15 RX0, Cond.fieldLink RX1 17 "WrongClocks$House" "clocks" "[LWrongClocks$Clock;", Cond.classLink RX1 21 RX2, Cond.instantiable RX2 4, Cond.initialized RX2, Cond.fieldLink RX1 24 "WrongClocks$House" "notes" "LWrongClocks$Notes;"]
def wsX6_init_r3 : List Cond := [Cond.instanceMethod yX2_init, Cond.code yX2_init cX2_init 1 none, Cond.methodLink RX2 3 objectInit, Cond.fieldLink RX2 9 "WrongClocks$Notes" "many" "I", Cond.fieldLink RX2 15 "WrongClocks$Notes" "clocks" "[I", Cond.fieldLink RX2 19 "WrongClocks$Notes" "minutes" "[I", Cond.fieldLink RX2 22 "WrongClocks$Notes" "dials" "[I", Cond.instanceMethod yX0_init, Cond.code yX0_init cX0_init 1 none, Cond.methodLink RX0 3 objectInit, Cond.fieldLink RX0 9 "WrongClocks$Clock" "kind" "I", Cond.fieldLink RX0 15 "WrongClocks$Clock" "set" "I", Cond.fieldLink RX0 18 "WrongClocks$Clock" "dial" "I", Cond.fieldLink RX0 21 "WrongClocks$Clock" "low" "I", Cond.fieldLink RX0 24 "WrongClocks$Clock" "high" "I", Cond.fieldLink RX0 27 "WrongClocks$Clock" "read" "I", Cond.instanceMethod yX4_init, Cond.code yX4_init cX4_init 1 none, Cond.methodLink RX4 3 objectInit, Cond.fieldLink RX4 9 "WrongClocks$Tally" "many" "I", Cond.fieldLink RX4 15 "WrongClocks$Tally" "first" "I", Cond.fieldLink RX4 18 "WrongClocks$Tally" "last" "I", Cond.fieldLink RX4 21 "WrongClocks$Tally" "runs" "I", Cond.instanceMethod yX3_init]
def wsX6_init_r4 : List Cond := [Cond.code yX3_init cX3_init 1 none, Cond.methodLink RX3 3 objectInit, Cond.fieldLink RX3 9 "WrongClocks$Queue" "many" "I", Cond.fieldLink RX3 15 "WrongClocks$Queue" "clocks" "[I", Cond.fieldLink RX3 19 "WrongClocks$Queue" "rates" "[I", Cond.fieldLink RX3 22 "WrongClocks$Queue" "least" "[I"]
def wsX6_init : List Cond := .code yX6_init cX6_init 2 none :: ((wsX6_init_r1 ++ (wsX6_init_r2 ++ (wsX6_init_r3 ++ wsX6_init_r4))) ++ wsX50 ++ wsX60 ++ wsX10 ++ wsX40 ++ wsX00 ++ wsX30 ++ wsX20)
def wsX6_write : List Cond := .code yX6_write cX6_write 5 (some .int) :: ([.fieldLink RX6 12 "WrongClocks" "text" "LWrongClocks$Text;", .fieldLink RX6 59 "WrongClocks$Text" "length" "I", .constantLong RX6 63 (255), .methodLink RX6 65 yX5_put, .instanceMethod yX5_put, .selects RX5 yX5_put yX5_put, .initialized RX5, .code yX5_put cX5_put 2 none, .fieldLink RX5 15 "WrongClocks$Text" "length" "I", .fieldLink RX5 9 "WrongClocks$Text" "bytes" "[I"] ++ wsX60 ++ wsX50)
def wsX6_erase : List Cond := .code yX6_erase cX6_erase 2 (some .int) :: ([.fieldLink RX6 12 "WrongClocks" "text" "LWrongClocks$Text;", .fieldLink RX6 59 "WrongClocks$Text" "length" "I"] ++ wsX60 ++ wsX50)
def wsX6_fault_r1 : List Cond := [Cond.fieldLink RX6 12 "WrongClocks" "text" "LWrongClocks$Text;", Cond.fieldLink RX6 19 "WrongClocks" "present" "LWrongClocks$House;", Cond.methodLink RX6 69 yX1_toldBits, Cond.instanceMethod yX1_toldBits, Cond.selects RX1 yX1_toldBits yX1_toldBits, Cond.initialized RX1, Cond.code yX1_toldBits cX1_toldBits 3 (some .int), Cond.fieldLink RX1 17 "WrongClocks$House" "clocks" "[LWrongClocks$Clock;", Cond.fieldLink RX1 40 "WrongClocks$Clock" "kind" "I", Cond.methodLink RX6 73 yX5_findFault, Cond.instanceMethod yX5_findFault, Cond.selects RX5 yX5_findFault yX5_findFault, Cond.initialized RX5, Cond.code yX5_findFault cX5_findFault 4 (some .int), Cond.fieldLink RX5 28 "WrongClocks$Text" "end" "I", Cond.fieldLink RX5 22 "WrongClocks$Text" "lineCount" "I", Cond.fieldLink RX5 25 "WrongClocks$Text" "start" "I", Cond.fieldLink RX5 15 "WrongClocks$Text" "length" "I", Cond.methodLink RX5 35 yX5_takeLine, Cond.instanceMethod yX5_takeLine, Cond.selects RX5 yX5_takeLine yX5_takeLine, Cond.code yX5_takeLine cX5_takeLine 10 (some .boolean), Cond.fieldLink RX5 19 "WrongClocks$Text" "rows" "[I", Cond.methodLink RX5 42 yX5_takeToken]
def wsX6_fault_r2 : List Cond := [Cond.instanceMethod yX5_takeToken, Cond.selects RX5 yX5_takeToken yX5_takeToken, Cond.code yX5_takeToken cX5_takeToken 1 none, Cond.methodLink RX5 45 yX5_signAt, Cond.instanceMethod yX5_signAt, Cond.selects RX5 yX5_signAt yX5_signAt, Cond.code yX5_signAt cX5_signAt 2 (some .int), Cond.fieldLink RX5 9 "WrongClocks$Text" "bytes" "[I", Cond.methodLink RX5 75 yX5_isLetter, Cond.static yX5_isLetter, Cond.code yX5_isLetter cX5_isLetter 1 (some .boolean), Cond.methodLink RX5 79 yX5_isDigit, Cond.static yX5_isDigit, Cond.code yX5_isDigit cX5_isDigit 1 (some .boolean), Cond.methodLink RX5 49 yX5_wordTaken, Cond.instanceMethod yX5_wordTaken, Cond.selects RX5 yX5_wordTaken yX5_wordTaken, Cond.code yX5_wordTaken cX5_wordTaken 2 (some .int), Cond.methodLink RX5 82 yX5_wordOf, Cond.static yX5_wordOf, Cond.code yX5_wordOf cX5_wordOf 1 (some (.object "java/lang/String")), Cond.methodLink RX5 85 yX5_isTaken, Cond.instanceMethod yX5_isTaken, Cond.selects RX5 yX5_isTaken yX5_isTaken]
def wsX6_fault_r3 : List Cond := [Cond.code yX5_isTaken cX5_isTaken 3 (some .boolean), Cond.methodLink RX5 57 yJ0_length_8abf5, Cond.instanceMethod yJ0_length_8abf5, Cond.selects RJ0 yJ0_length_8abf5 yJ0_length_8abf5, Cond.initialized RJ0, Cond.code yJ0_length_8abf5 cJ0_length_8abf5 1 (some .int), Cond.fieldLink RJ0 9 "java/lang/String" "value" "[B", Cond.methodLink RJ0 335 yJ0_coder_7d493, Cond.instanceMethod yJ0_coder_7d493, Cond.selects RJ0 yJ0_coder_7d493 yJ0_coder_7d493, Cond.code yJ0_coder_7d493 cJ0_coder_7d493 1 (some .byte), Cond.fieldLink RJ0 38 "java/lang/String" "COMPACT_STRINGS" "Z", Cond.fieldLink RJ0 15 "java/lang/String" "coder" "B", Cond.methodLink RX5 61 yJ0_charAt_5068e, Cond.instanceMethod yJ0_charAt_5068e, Cond.selects RJ0 yJ0_charAt_5068e yJ0_charAt_5068e, Cond.code yJ0_charAt_5068e cJ0_charAt_5068e 2 (some .char), Cond.methodLink RJ0 492 yJ0_isLatin1_aae02, Cond.instanceMethod yJ0_isLatin1_aae02, Cond.selects RJ0 yJ0_isLatin1_aae02 yJ0_isLatin1_aae02, Cond.code yJ0_isLatin1_aae02 cJ0_isLatin1_aae02 1 (some .boolean), Cond.methodLink RJ0 495 yJ1_charAt_3b067, Cond.static yJ1_charAt_3b067, Cond.initialized RJ1]
def wsX6_fault_r4 : List Cond := [Cond.code yJ1_charAt_3b067 cJ1_charAt_3b067 2 (some .char), Cond.methodLink RJ1 9 yJ0_checkIndex_df160, Cond.static yJ0_checkIndex_df160, Cond.code yJ0_checkIndex_df160 cJ0_checkIndex_df160 2 none, Cond.fieldLink RJ0 1053 "jdk/internal/util/Preconditions" "SIOOBE_FORMATTER" "Ljava/util/function/BiFunction;", Cond.methodLink RJ0 1059 yJ3_checkIndex_8e157, Cond.static yJ3_checkIndex_8e157, Cond.initialized RJ3, Cond.code yJ3_checkIndex_8e157 cJ3_checkIndex_8e157 3 (some .int), Cond.methodLink RJ0 498 yJ2_charAt_3b067, Cond.static yJ2_charAt_3b067, Cond.initialized RJ2, Cond.code yJ2_charAt_3b067 cJ2_charAt_3b067 2 (some .char), Cond.methodLink RJ2 67 yJ2_checkIndex_2214a, Cond.static yJ2_checkIndex_2214a, Cond.code yJ2_checkIndex_2214a cJ2_checkIndex_2214a 2 none, Cond.methodLink RJ2 48 yJ2_length_9d52b, Cond.static yJ2_length_9d52b, Cond.code yJ2_length_9d52b cJ2_length_9d52b 1 (some .int), Cond.methodLink RJ2 414 yJ0_checkIndex_df160, Cond.methodLink RJ2 71 yJ2_getChar_3b067, Cond.static yJ2_getChar_3b067, Cond.code yJ2_getChar_3b067 cJ2_getChar_3b067 2 (some .char), Cond.fieldLink RJ2 44 "java/lang/StringUTF16" "$assertionsDisabled" "Z"]
def wsX6_fault_r5 : List Cond := [Cond.fieldLink RJ2 59 "java/lang/StringUTF16" "HI_BYTE_SHIFT" "I", Cond.fieldLink RJ2 63 "java/lang/StringUTF16" "LO_BYTE_SHIFT" "I", Cond.static yX6_isBelow, Cond.initialized RX6, Cond.code yX6_isBelow cX6_isBelow 2 (some .boolean), Cond.methodLink RX5 53 yX5_numbersOf, Cond.static yX5_numbersOf, Cond.code yX5_numbersOf cX5_numbersOf 1 (some (.object "java/lang/String")), Cond.methodLink RX5 65 yX5_numberTaken, Cond.instanceMethod yX5_numberTaken, Cond.selects RX5 yX5_numberTaken yX5_numberTaken, Cond.code yX5_numberTaken cX5_numberTaken 3 (some .int), Cond.methodLink RX5 68 yX5_mostOf, Cond.static yX5_mostOf, Cond.code yX5_mostOf cX5_mostOf 1 (some .int), Cond.methodLink RX5 38 yX5_knownBehind, Cond.instanceMethod yX5_knownBehind, Cond.selects RX5 yX5_knownBehind yX5_knownBehind, Cond.code yX5_knownBehind cX5_knownBehind 4 (some .int), Cond.methodLink RX5 72 yX5_number, Cond.instanceMethod yX5_number, Cond.selects RX5 yX5_number yX5_number, Cond.code yX5_number cX5_number 3 (some .int)]
def wsX6_fault : List Cond := .code yX6_fault cX6_fault 1 (some .int) :: ((wsX6_fault_r1 ++ (wsX6_fault_r2 ++ (wsX6_fault_r3 ++ (wsX6_fault_r4 ++ wsX6_fault_r5)))) ++ wsX60 ++ wsX10 ++ wsX00 ++ wsX50)
def wsX6_house_r1 : List Cond := [Cond.fieldLink RX6 12 "WrongClocks" "text" "LWrongClocks$Text;", Cond.fieldLink RX6 19 "WrongClocks" "present" "LWrongClocks$House;", Cond.fieldLink RX6 77 "WrongClocks$Text" "lineCount" "I", Cond.fieldLink RX6 52 "WrongClocks" "sifted" "Z", Cond.fieldLink RX6 59 "WrongClocks$Text" "length" "I", Cond.methodLink RX6 69 yX1_toldBits, Cond.instanceMethod yX1_toldBits, Cond.selects RX1 yX1_toldBits yX1_toldBits, Cond.initialized RX1, Cond.code yX1_toldBits cX1_toldBits 3 (some .int), Cond.fieldLink RX1 17 "WrongClocks$House" "clocks" "[LWrongClocks$Clock;", Cond.fieldLink RX1 40 "WrongClocks$Clock" "kind" "I", Cond.methodLink RX6 73 yX5_findFault, Cond.instanceMethod yX5_findFault, Cond.selects RX5 yX5_findFault yX5_findFault, Cond.initialized RX5, Cond.code yX5_findFault cX5_findFault 4 (some .int), Cond.fieldLink RX5 28 "WrongClocks$Text" "end" "I", Cond.fieldLink RX5 22 "WrongClocks$Text" "lineCount" "I", Cond.fieldLink RX5 25 "WrongClocks$Text" "start" "I", Cond.fieldLink RX5 15 "WrongClocks$Text" "length" "I", Cond.methodLink RX5 35 yX5_takeLine, Cond.instanceMethod yX5_takeLine, Cond.selects RX5 yX5_takeLine yX5_takeLine]
def wsX6_house_r2 : List Cond := [Cond.code yX5_takeLine cX5_takeLine 10 (some .boolean), Cond.fieldLink RX5 19 "WrongClocks$Text" "rows" "[I", Cond.methodLink RX5 42 yX5_takeToken, Cond.instanceMethod yX5_takeToken, Cond.selects RX5 yX5_takeToken yX5_takeToken, Cond.code yX5_takeToken cX5_takeToken 1 none, Cond.methodLink RX5 45 yX5_signAt, Cond.instanceMethod yX5_signAt, Cond.selects RX5 yX5_signAt yX5_signAt, Cond.code yX5_signAt cX5_signAt 2 (some .int), Cond.fieldLink RX5 9 "WrongClocks$Text" "bytes" "[I", Cond.methodLink RX5 75 yX5_isLetter, Cond.static yX5_isLetter, Cond.code yX5_isLetter cX5_isLetter 1 (some .boolean), Cond.methodLink RX5 79 yX5_isDigit, Cond.static yX5_isDigit, Cond.code yX5_isDigit cX5_isDigit 1 (some .boolean), Cond.methodLink RX5 49 yX5_wordTaken, Cond.instanceMethod yX5_wordTaken, Cond.selects RX5 yX5_wordTaken yX5_wordTaken, Cond.code yX5_wordTaken cX5_wordTaken 2 (some .int), Cond.methodLink RX5 82 yX5_wordOf, Cond.static yX5_wordOf, Cond.code yX5_wordOf cX5_wordOf 1 (some (.object "java/lang/String"))]
def wsX6_house_r3 : List Cond := [Cond.methodLink RX5 85 yX5_isTaken, Cond.instanceMethod yX5_isTaken, Cond.selects RX5 yX5_isTaken yX5_isTaken, Cond.code yX5_isTaken cX5_isTaken 3 (some .boolean), Cond.methodLink RX5 57 yJ0_length_8abf5, Cond.instanceMethod yJ0_length_8abf5, Cond.selects RJ0 yJ0_length_8abf5 yJ0_length_8abf5, Cond.initialized RJ0, Cond.code yJ0_length_8abf5 cJ0_length_8abf5 1 (some .int), Cond.fieldLink RJ0 9 "java/lang/String" "value" "[B", Cond.methodLink RJ0 335 yJ0_coder_7d493, Cond.instanceMethod yJ0_coder_7d493, Cond.selects RJ0 yJ0_coder_7d493 yJ0_coder_7d493, Cond.code yJ0_coder_7d493 cJ0_coder_7d493 1 (some .byte), Cond.fieldLink RJ0 38 "java/lang/String" "COMPACT_STRINGS" "Z", Cond.fieldLink RJ0 15 "java/lang/String" "coder" "B", Cond.methodLink RX5 61 yJ0_charAt_5068e, Cond.instanceMethod yJ0_charAt_5068e, Cond.selects RJ0 yJ0_charAt_5068e yJ0_charAt_5068e, Cond.code yJ0_charAt_5068e cJ0_charAt_5068e 2 (some .char), Cond.methodLink RJ0 492 yJ0_isLatin1_aae02, Cond.instanceMethod yJ0_isLatin1_aae02, Cond.selects RJ0 yJ0_isLatin1_aae02 yJ0_isLatin1_aae02, Cond.code yJ0_isLatin1_aae02 cJ0_isLatin1_aae02 1 (some .boolean)]
def wsX6_house_r4 : List Cond := [Cond.methodLink RJ0 495 yJ1_charAt_3b067, Cond.static yJ1_charAt_3b067, Cond.initialized RJ1, Cond.code yJ1_charAt_3b067 cJ1_charAt_3b067 2 (some .char), Cond.methodLink RJ1 9 yJ0_checkIndex_df160, Cond.static yJ0_checkIndex_df160, Cond.code yJ0_checkIndex_df160 cJ0_checkIndex_df160 2 none, Cond.fieldLink RJ0 1053 "jdk/internal/util/Preconditions" "SIOOBE_FORMATTER" "Ljava/util/function/BiFunction;", Cond.methodLink RJ0 1059 yJ3_checkIndex_8e157, Cond.static yJ3_checkIndex_8e157, Cond.initialized RJ3, Cond.code yJ3_checkIndex_8e157 cJ3_checkIndex_8e157 3 (some .int), Cond.methodLink RJ0 498 yJ2_charAt_3b067, Cond.static yJ2_charAt_3b067, Cond.initialized RJ2, Cond.code yJ2_charAt_3b067 cJ2_charAt_3b067 2 (some .char), Cond.methodLink RJ2 67 yJ2_checkIndex_2214a, Cond.static yJ2_checkIndex_2214a, Cond.code yJ2_checkIndex_2214a cJ2_checkIndex_2214a 2 none, Cond.methodLink RJ2 48 yJ2_length_9d52b, Cond.static yJ2_length_9d52b, Cond.code yJ2_length_9d52b cJ2_length_9d52b 1 (some .int), Cond.methodLink RJ2 414 yJ0_checkIndex_df160, Cond.methodLink RJ2 71 yJ2_getChar_3b067]
def wsX6_house_r5 : List Cond := [Cond.static yJ2_getChar_3b067, Cond.code yJ2_getChar_3b067 cJ2_getChar_3b067 2 (some .char), Cond.fieldLink RJ2 44 "java/lang/StringUTF16" "$assertionsDisabled" "Z", Cond.fieldLink RJ2 59 "java/lang/StringUTF16" "HI_BYTE_SHIFT" "I", Cond.fieldLink RJ2 63 "java/lang/StringUTF16" "LO_BYTE_SHIFT" "I", Cond.static yX6_isBelow, Cond.initialized RX6, Cond.code yX6_isBelow cX6_isBelow 2 (some .boolean), Cond.methodLink RX5 53 yX5_numbersOf, Cond.static yX5_numbersOf, Cond.code yX5_numbersOf cX5_numbersOf 1 (some (.object "java/lang/String")), Cond.methodLink RX5 65 yX5_numberTaken, Cond.instanceMethod yX5_numberTaken, Cond.selects RX5 yX5_numberTaken yX5_numberTaken, Cond.code yX5_numberTaken cX5_numberTaken 3 (some .int), Cond.methodLink RX5 68 yX5_mostOf, Cond.static yX5_mostOf, Cond.code yX5_mostOf cX5_mostOf 1 (some .int), Cond.methodLink RX5 38 yX5_knownBehind, Cond.instanceMethod yX5_knownBehind, Cond.selects RX5 yX5_knownBehind yX5_knownBehind, Cond.code yX5_knownBehind cX5_knownBehind 4 (some .int), Cond.methodLink RX5 72 yX5_number, Cond.instanceMethod yX5_number]
def wsX6_house_r6 : List Cond := [Cond.selects RX5 yX5_number yX5_number, Cond.code yX5_number cX5_number 3 (some .int), Cond.methodLink RX6 80 yX1_heed, Cond.instanceMethod yX1_heed, Cond.selects RX1 yX1_heed yX1_heed, Cond.code yX1_heed cX1_heed 8 none, Cond.fieldLink RX1 44 "WrongClocks$Clock" "read" "I", Cond.methodLink RX1 50 yX5_number, Cond.methodLink RX1 56 yX1_readNone, Cond.instanceMethod yX1_readNone, Cond.selects RX1 yX1_readNone yX1_readNone, Cond.code yX1_readNone cX1_readNone 2 none, Cond.methodLink RX1 59 yX0_tell, Cond.instanceMethod yX0_tell, Cond.selects RX0 yX0_tell yX0_tell, Cond.initialized RX0, Cond.code yX0_tell cX0_tell 6 none, Cond.fieldLink RX0 9 "WrongClocks$Clock" "kind" "I", Cond.fieldLink RX0 15 "WrongClocks$Clock" "set" "I", Cond.fieldLink RX0 18 "WrongClocks$Clock" "dial" "I", Cond.fieldLink RX0 21 "WrongClocks$Clock" "low" "I", Cond.fieldLink RX0 24 "WrongClocks$Clock" "high" "I", Cond.fieldLink RX0 27 "WrongClocks$Clock" "read" "I"]
def wsX6_house : List Cond := .code yX6_house cX6_house 2 (some .int) :: ((wsX6_house_r1 ++ (wsX6_house_r2 ++ (wsX6_house_r3 ++ (wsX6_house_r4 ++ (wsX6_house_r5 ++ wsX6_house_r6))))) ++ wsX60 ++ wsX50 ++ wsX10 ++ wsX00)
def wsX6_clock : List Cond := .code yX6_clock cX6_clock 5 (some .int) :: ([.fieldLink RX6 19 "WrongClocks" "present" "LWrongClocks$House;", .fieldLink RX6 88 "WrongClocks$Clock" "kind" "I", .fieldLink RX6 91 "WrongClocks$Clock" "set" "I", .fieldLink RX6 94 "WrongClocks$Clock" "dial" "I", .fieldLink RX6 97 "WrongClocks$Clock" "low" "I", .fieldLink RX6 100 "WrongClocks$Clock" "high" "I", .fieldLink RX6 103 "WrongClocks$Clock" "read" "I", .methodLink RX6 84 yX1_toldClock, .instanceMethod yX1_toldClock, .selects RX1 yX1_toldClock yX1_toldClock, .initialized RX1, .code yX1_toldClock cX1_toldClock 2 (some (.object "WrongClocks$Clock")), .fieldLink RX1 17 "WrongClocks$House" "clocks" "[LWrongClocks$Clock;", .fieldLink RX1 40 "WrongClocks$Clock" "kind" "I", .static yX6_isBelow, .initialized RX6, .code yX6_isBelow cX6_isBelow 2 (some .boolean)] ++ wsX60 ++ wsX00 ++ wsX10)
def wsX6_shows_r1 : List Cond := [Cond.fieldLink RX6 19 "WrongClocks" "present" "LWrongClocks$House;", Cond.fieldLink RX6 97 "WrongClocks$Clock" "low" "I", Cond.fieldLink RX6 100 "WrongClocks$Clock" "high" "I", Cond.methodLink RX6 84 yX1_toldClock, Cond.instanceMethod yX1_toldClock, Cond.selects RX1 yX1_toldClock yX1_toldClock, Cond.initialized RX1, Cond.code yX1_toldClock cX1_toldClock 2 (some (.object "WrongClocks$Clock")), Cond.fieldLink RX1 17 "WrongClocks$House" "clocks" "[LWrongClocks$Clock;", Cond.fieldLink RX1 40 "WrongClocks$Clock" "kind" "I", Cond.static yX6_isBelow, Cond.initialized RX6, Cond.code yX6_isBelow cX6_isBelow 2 (some .boolean), Cond.methodLink RX6 106 yX6_isBelow, Cond.methodLink RX6 110 yX0_dialAt, Cond.instanceMethod yX0_dialAt, Cond.selects RX0 yX0_dialAt yX0_dialAt, Cond.initialized RX0, Cond.code yX0_dialAt cX0_dialAt 3 (some .int), Cond.methodLink RX0 38 yX0_handAt, Cond.instanceMethod yX0_handAt, Cond.selects RX0 yX0_handAt yX0_handAt, Cond.code yX0_handAt cX0_handAt 3 (some .int), Cond.fieldLink RX0 18 "WrongClocks$Clock" "dial" "I"]
def wsX6_shows_r2 : List Cond := [Cond.fieldLink RX0 15 "WrongClocks$Clock" "set" "I", Cond.methodLink RX0 34 yX0_way, Cond.instanceMethod yX0_way, Cond.selects RX0 yX0_way yX0_way, Cond.code yX0_way cX0_way 4 (some .int), Cond.fieldLink RX0 9 "WrongClocks$Clock" "kind" "I", Cond.methodLink RX0 41 yJ9_floorDiv_7cf53, Cond.static yJ9_floorDiv_7cf53, Cond.initialized RJ9, Cond.code yJ9_floorDiv_7cf53 cJ9_floorDiv_7cf53 3 (some .int), Cond.methodLink RX0 46 yJ9_floorMod_7cf53, Cond.static yJ9_floorMod_7cf53, Cond.code yJ9_floorMod_7cf53 cJ9_floorMod_7cf53 3 (some .int)]
def wsX6_shows : List Cond := .code yX6_shows cX6_shows 5 (some .int) :: ((wsX6_shows_r1 ++ wsX6_shows_r2) ++ wsX60 ++ wsX00 ++ wsX10)
def wsX6_can_r1 : List Cond := [Cond.fieldLink RX6 19 "WrongClocks" "present" "LWrongClocks$House;", Cond.methodLink RX6 84 yX1_toldClock, Cond.instanceMethod yX1_toldClock, Cond.selects RX1 yX1_toldClock yX1_toldClock, Cond.initialized RX1, Cond.code yX1_toldClock cX1_toldClock 2 (some (.object "WrongClocks$Clock")), Cond.fieldLink RX1 17 "WrongClocks$House" "clocks" "[LWrongClocks$Clock;", Cond.fieldLink RX1 40 "WrongClocks$Clock" "kind" "I", Cond.static yX6_isBelow, Cond.initialized RX6, Cond.code yX6_isBelow cX6_isBelow 2 (some .boolean), Cond.methodLink RX6 106 yX6_isBelow, Cond.methodLink RX6 114 yX0_canShow, Cond.instanceMethod yX0_canShow, Cond.selects RX0 yX0_canShow yX0_canShow, Cond.initialized RX0, Cond.code yX0_canShow cX0_canShow 7 (some .boolean), Cond.fieldLink RX0 21 "WrongClocks$Clock" "low" "I", Cond.fieldLink RX0 24 "WrongClocks$Clock" "high" "I", Cond.methodLink RX0 49 Lib.Math.min.name, Cond.static Lib.Math.min.name, Cond.initialized "java/lang/Math", Cond.code Lib.Math.min.name Lib.Math.min.code 2 (some .int), Cond.methodLink RX0 52 Lib.Math.max.name]
def wsX6_can_r2 : List Cond := [Cond.static Lib.Math.max.name, Cond.code Lib.Math.max.name Lib.Math.max.code 2 (some .int), Cond.methodLink RX0 38 yX0_handAt, Cond.instanceMethod yX0_handAt, Cond.selects RX0 yX0_handAt yX0_handAt, Cond.code yX0_handAt cX0_handAt 3 (some .int), Cond.fieldLink RX0 18 "WrongClocks$Clock" "dial" "I", Cond.fieldLink RX0 15 "WrongClocks$Clock" "set" "I", Cond.methodLink RX0 34 yX0_way, Cond.instanceMethod yX0_way, Cond.selects RX0 yX0_way yX0_way, Cond.code yX0_way cX0_way 4 (some .int), Cond.fieldLink RX0 9 "WrongClocks$Clock" "kind" "I", Cond.methodLink RX0 41 yJ9_floorDiv_7cf53, Cond.static yJ9_floorDiv_7cf53, Cond.initialized RJ9, Cond.code yJ9_floorDiv_7cf53 cJ9_floorDiv_7cf53 3 (some .int), Cond.methodLink RX0 46 yJ9_floorMod_7cf53, Cond.static yJ9_floorMod_7cf53, Cond.code yJ9_floorMod_7cf53 cJ9_floorMod_7cf53 3 (some .int)]
def wsX6_can : List Cond := .code yX6_can cX6_can 5 (some .int) :: ((wsX6_can_r1 ++ wsX6_can_r2) ++ wsX60 ++ wsX10 ++ wsX00)
def wsX6_fits_r1 : List Cond := [Cond.fieldLink RX6 19 "WrongClocks" "present" "LWrongClocks$House;", Cond.methodLink RX6 106 yX6_isBelow, Cond.static yX6_isBelow, Cond.initialized RX6, Cond.code yX6_isBelow cX6_isBelow 2 (some .boolean), Cond.methodLink RX6 117 yX1_readBits, Cond.instanceMethod yX1_readBits, Cond.selects RX1 yX1_readBits yX1_readBits, Cond.initialized RX1, Cond.code yX1_readBits cX1_readBits 3 (some .int), Cond.fieldLink RX1 17 "WrongClocks$House" "clocks" "[LWrongClocks$Clock;", Cond.fieldLink RX1 44 "WrongClocks$Clock" "read" "I", Cond.methodLink RX6 120 yX1_misfitsAt, Cond.instanceMethod yX1_misfitsAt, Cond.selects RX1 yX1_misfitsAt yX1_misfitsAt, Cond.code yX1_misfitsAt cX1_misfitsAt 5 (some .int), Cond.methodLink RX1 47 yX0_canShow, Cond.instanceMethod yX0_canShow, Cond.selects RX0 yX0_canShow yX0_canShow, Cond.initialized RX0, Cond.code yX0_canShow cX0_canShow 7 (some .boolean), Cond.fieldLink RX0 21 "WrongClocks$Clock" "low" "I", Cond.fieldLink RX0 24 "WrongClocks$Clock" "high" "I", Cond.methodLink RX0 49 Lib.Math.min.name]
def wsX6_fits_r2 : List Cond := [Cond.static Lib.Math.min.name, Cond.initialized "java/lang/Math", Cond.code Lib.Math.min.name Lib.Math.min.code 2 (some .int), Cond.methodLink RX0 52 Lib.Math.max.name, Cond.static Lib.Math.max.name, Cond.code Lib.Math.max.name Lib.Math.max.code 2 (some .int), Cond.methodLink RX0 38 yX0_handAt, Cond.instanceMethod yX0_handAt, Cond.selects RX0 yX0_handAt yX0_handAt, Cond.code yX0_handAt cX0_handAt 3 (some .int), Cond.fieldLink RX0 18 "WrongClocks$Clock" "dial" "I", Cond.fieldLink RX0 15 "WrongClocks$Clock" "set" "I", Cond.methodLink RX0 34 yX0_way, Cond.instanceMethod yX0_way, Cond.selects RX0 yX0_way yX0_way, Cond.code yX0_way cX0_way 4 (some .int), Cond.fieldLink RX0 9 "WrongClocks$Clock" "kind" "I", Cond.methodLink RX0 41 yJ9_floorDiv_7cf53, Cond.static yJ9_floorDiv_7cf53, Cond.initialized RJ9, Cond.code yJ9_floorDiv_7cf53 cJ9_floorDiv_7cf53 3 (some .int), Cond.methodLink RX0 46 yJ9_floorMod_7cf53, Cond.static yJ9_floorMod_7cf53, Cond.code yJ9_floorMod_7cf53 cJ9_floorMod_7cf53 3 (some .int)]
def wsX6_fits : List Cond := .code yX6_fits cX6_fits 2 (some .int) :: ((wsX6_fits_r1 ++ wsX6_fits_r2) ++ wsX60 ++ wsX10 ++ wsX00)
def wsX6_sift_r1 : List Cond := [Cond.fieldLink RX6 52 "WrongClocks" "sifted" "Z", Cond.fieldLink RX6 48 "WrongClocks" "misfits" "[I", Cond.fieldLink RX6 19 "WrongClocks" "present" "LWrongClocks$House;", Cond.methodLink RX6 120 yX1_misfitsAt, Cond.instanceMethod yX1_misfitsAt, Cond.selects RX1 yX1_misfitsAt yX1_misfitsAt, Cond.initialized RX1, Cond.code yX1_misfitsAt cX1_misfitsAt 5 (some .int), Cond.fieldLink RX1 17 "WrongClocks$House" "clocks" "[LWrongClocks$Clock;", Cond.fieldLink RX1 44 "WrongClocks$Clock" "read" "I", Cond.methodLink RX1 47 yX0_canShow, Cond.instanceMethod yX0_canShow, Cond.selects RX0 yX0_canShow yX0_canShow, Cond.initialized RX0, Cond.code yX0_canShow cX0_canShow 7 (some .boolean), Cond.fieldLink RX0 21 "WrongClocks$Clock" "low" "I", Cond.fieldLink RX0 24 "WrongClocks$Clock" "high" "I", Cond.methodLink RX0 49 Lib.Math.min.name, Cond.static Lib.Math.min.name, Cond.initialized "java/lang/Math", Cond.code Lib.Math.min.name Lib.Math.min.code 2 (some .int), Cond.methodLink RX0 52 Lib.Math.max.name, Cond.static Lib.Math.max.name, Cond.code Lib.Math.max.name Lib.Math.max.code 2 (some .int)]
def wsX6_sift_r2 : List Cond := [Cond.methodLink RX0 38 yX0_handAt, Cond.instanceMethod yX0_handAt, Cond.selects RX0 yX0_handAt yX0_handAt, Cond.code yX0_handAt cX0_handAt 3 (some .int), Cond.fieldLink RX0 18 "WrongClocks$Clock" "dial" "I", Cond.fieldLink RX0 15 "WrongClocks$Clock" "set" "I", Cond.methodLink RX0 34 yX0_way, Cond.instanceMethod yX0_way, Cond.selects RX0 yX0_way yX0_way, Cond.code yX0_way cX0_way 4 (some .int), Cond.fieldLink RX0 9 "WrongClocks$Clock" "kind" "I", Cond.methodLink RX0 41 yJ9_floorDiv_7cf53, Cond.static yJ9_floorDiv_7cf53, Cond.initialized RJ9, Cond.code yJ9_floorDiv_7cf53 cJ9_floorDiv_7cf53 3 (some .int), Cond.methodLink RX0 46 yJ9_floorMod_7cf53, Cond.static yJ9_floorMod_7cf53, Cond.code yJ9_floorMod_7cf53 cJ9_floorMod_7cf53 3 (some .int)]
def wsX6_sift : List Cond := .code yX6_sift cX6_sift 2 none :: ((wsX6_sift_r1 ++ wsX6_sift_r2) ++ wsX60 ++ wsX10 ++ wsX00)
def wsX6_times_r1 : List Cond := [Cond.fieldLink RX6 30 "WrongClocks" "tally" "LWrongClocks$Tally;", Cond.fieldLink RX6 48 "WrongClocks" "misfits" "[I", Cond.methodLink RX6 106 yX6_isBelow, Cond.static yX6_isBelow, Cond.initialized RX6, Cond.code yX6_isBelow cX6_isBelow 2 (some .boolean), Cond.methodLink RX6 123 yX6_sift, Cond.instanceMethod yX6_sift, Cond.selects RX6 yX6_sift yX6_sift, Cond.code yX6_sift cX6_sift 2 none, Cond.fieldLink RX6 52 "WrongClocks" "sifted" "Z", Cond.fieldLink RX6 19 "WrongClocks" "present" "LWrongClocks$House;", Cond.methodLink RX6 120 yX1_misfitsAt, Cond.instanceMethod yX1_misfitsAt, Cond.selects RX1 yX1_misfitsAt yX1_misfitsAt, Cond.initialized RX1, Cond.code yX1_misfitsAt cX1_misfitsAt 5 (some .int), Cond.fieldLink RX1 17 "WrongClocks$House" "clocks" "[LWrongClocks$Clock;", Cond.fieldLink RX1 44 "WrongClocks$Clock" "read" "I", Cond.methodLink RX1 47 yX0_canShow, Cond.instanceMethod yX0_canShow, Cond.selects RX0 yX0_canShow yX0_canShow, Cond.initialized RX0, Cond.code yX0_canShow cX0_canShow 7 (some .boolean)]
def wsX6_times_r2 : List Cond := [Cond.fieldLink RX0 21 "WrongClocks$Clock" "low" "I", Cond.fieldLink RX0 24 "WrongClocks$Clock" "high" "I", Cond.methodLink RX0 49 Lib.Math.min.name, Cond.static Lib.Math.min.name, Cond.initialized "java/lang/Math", Cond.code Lib.Math.min.name Lib.Math.min.code 2 (some .int), Cond.methodLink RX0 52 Lib.Math.max.name, Cond.static Lib.Math.max.name, Cond.code Lib.Math.max.name Lib.Math.max.code 2 (some .int), Cond.methodLink RX0 38 yX0_handAt, Cond.instanceMethod yX0_handAt, Cond.selects RX0 yX0_handAt yX0_handAt, Cond.code yX0_handAt cX0_handAt 3 (some .int), Cond.fieldLink RX0 18 "WrongClocks$Clock" "dial" "I", Cond.fieldLink RX0 15 "WrongClocks$Clock" "set" "I", Cond.methodLink RX0 34 yX0_way, Cond.instanceMethod yX0_way, Cond.selects RX0 yX0_way yX0_way, Cond.code yX0_way cX0_way 4 (some .int), Cond.fieldLink RX0 9 "WrongClocks$Clock" "kind" "I", Cond.methodLink RX0 41 yJ9_floorDiv_7cf53, Cond.static yJ9_floorDiv_7cf53, Cond.initialized RJ9, Cond.code yJ9_floorDiv_7cf53 cJ9_floorDiv_7cf53 3 (some .int)]
def wsX6_times_r3 : List Cond := [Cond.methodLink RX0 46 yJ9_floorMod_7cf53, Cond.static yJ9_floorMod_7cf53, Cond.code yJ9_floorMod_7cf53 cJ9_floorMod_7cf53 3 (some .int), Cond.methodLink RX6 126 yX4_clear, Cond.instanceMethod yX4_clear, Cond.selects RX4 yX4_clear yX4_clear, Cond.initialized RX4, Cond.code yX4_clear cX4_clear 1 none, Cond.fieldLink RX4 9 "WrongClocks$Tally" "many" "I", Cond.fieldLink RX4 15 "WrongClocks$Tally" "first" "I", Cond.fieldLink RX4 18 "WrongClocks$Tally" "last" "I", Cond.fieldLink RX4 21 "WrongClocks$Tally" "runs" "I", Cond.methodLink RX6 129 yX4_add, Cond.instanceMethod yX4_add, Cond.selects RX4 yX4_add yX4_add, Cond.code yX4_add cX4_add 2 none, Cond.methodLink RX6 132 yX4_tell, Cond.instanceMethod yX4_tell, Cond.selects RX4 yX4_tell yX4_tell, Cond.code yX4_tell cX4_tell 2 (some .int)]
def wsX6_times : List Cond := .code yX6_times cX6_times 3 (some .int) :: ((wsX6_times_r1 ++ (wsX6_times_r2 ++ wsX6_times_r3)) ++ wsX60 ++ wsX10 ++ wsX00 ++ wsX40)
def wsJ6_bitCount_0f7a4 : List Cond := .code yJ6_bitCount_0f7a4 cJ6_bitCount_0f7a4 1 (some .int) :: ([.constant RJ6 265 (1431655765), .constant RJ6 266 (858993459), .constant RJ6 267 (252645135)])
def wsX6_isLess : List Cond := .code yX6_isLess cX6_isLess 3 (some .boolean) :: ([.methodLink RX6 138 yJ6_bitCount_0f7a4, .static yJ6_bitCount_0f7a4, .initialized RJ6, .code yJ6_bitCount_0f7a4 cJ6_bitCount_0f7a4 1 (some .int), .constant RJ6 265 (1431655765), .constant RJ6 266 (858993459), .constant RJ6 267 (252645135)])
def wsX6_liars_r1 : List Cond := [Cond.fieldLink RX6 48 "WrongClocks" "misfits" "[I", Cond.methodLink RX6 106 yX6_isBelow, Cond.static yX6_isBelow, Cond.initialized RX6, Cond.code yX6_isBelow cX6_isBelow 2 (some .boolean), Cond.methodLink RX6 123 yX6_sift, Cond.instanceMethod yX6_sift, Cond.selects RX6 yX6_sift yX6_sift, Cond.code yX6_sift cX6_sift 2 none, Cond.fieldLink RX6 52 "WrongClocks" "sifted" "Z", Cond.fieldLink RX6 19 "WrongClocks" "present" "LWrongClocks$House;", Cond.methodLink RX6 120 yX1_misfitsAt, Cond.instanceMethod yX1_misfitsAt, Cond.selects RX1 yX1_misfitsAt yX1_misfitsAt, Cond.initialized RX1, Cond.code yX1_misfitsAt cX1_misfitsAt 5 (some .int), Cond.fieldLink RX1 17 "WrongClocks$House" "clocks" "[LWrongClocks$Clock;", Cond.fieldLink RX1 44 "WrongClocks$Clock" "read" "I", Cond.methodLink RX1 47 yX0_canShow, Cond.instanceMethod yX0_canShow, Cond.selects RX0 yX0_canShow yX0_canShow, Cond.initialized RX0, Cond.code yX0_canShow cX0_canShow 7 (some .boolean), Cond.fieldLink RX0 21 "WrongClocks$Clock" "low" "I"]
def wsX6_liars_r2 : List Cond := [Cond.fieldLink RX0 24 "WrongClocks$Clock" "high" "I", Cond.methodLink RX0 49 Lib.Math.min.name, Cond.static Lib.Math.min.name, Cond.initialized "java/lang/Math", Cond.code Lib.Math.min.name Lib.Math.min.code 2 (some .int), Cond.methodLink RX0 52 Lib.Math.max.name, Cond.static Lib.Math.max.name, Cond.code Lib.Math.max.name Lib.Math.max.code 2 (some .int), Cond.methodLink RX0 38 yX0_handAt, Cond.instanceMethod yX0_handAt, Cond.selects RX0 yX0_handAt yX0_handAt, Cond.code yX0_handAt cX0_handAt 3 (some .int), Cond.fieldLink RX0 18 "WrongClocks$Clock" "dial" "I", Cond.fieldLink RX0 15 "WrongClocks$Clock" "set" "I", Cond.methodLink RX0 34 yX0_way, Cond.instanceMethod yX0_way, Cond.selects RX0 yX0_way yX0_way, Cond.code yX0_way cX0_way 4 (some .int), Cond.fieldLink RX0 9 "WrongClocks$Clock" "kind" "I", Cond.methodLink RX0 41 yJ9_floorDiv_7cf53, Cond.static yJ9_floorDiv_7cf53, Cond.initialized RJ9, Cond.code yJ9_floorDiv_7cf53 cJ9_floorDiv_7cf53 3 (some .int), Cond.methodLink RX0 46 yJ9_floorMod_7cf53]
def wsX6_liars_r3 : List Cond := [Cond.static yJ9_floorMod_7cf53, Cond.code yJ9_floorMod_7cf53 cJ9_floorMod_7cf53 3 (some .int), Cond.methodLink RX6 135 yX6_isLess, Cond.static yX6_isLess, Cond.code yX6_isLess cX6_isLess 3 (some .boolean), Cond.methodLink RX6 138 yJ6_bitCount_0f7a4, Cond.static yJ6_bitCount_0f7a4, Cond.initialized RJ6, Cond.code yJ6_bitCount_0f7a4 cJ6_bitCount_0f7a4 1 (some .int), Cond.constant RJ6 265 (1431655765), Cond.constant RJ6 266 (858993459), Cond.constant RJ6 267 (252645135)]
def wsX6_liars : List Cond := .code yX6_liars cX6_liars 4 (some .int) :: ((wsX6_liars_r1 ++ (wsX6_liars_r2 ++ wsX6_liars_r3)) ++ wsX60 ++ wsX10 ++ wsX00)
def wsJ7_fill_53178 : List Cond := .code yJ7_fill_53178 cJ7_fill_53178 4 none :: ([])
def wsX6_mostLeftBy_r1 : List Cond := [Cond.fieldLink RX6 56 "WrongClocks" "shown" "[I", Cond.fieldLink RX6 48 "WrongClocks" "misfits" "[I", Cond.fieldLink RX6 97 "WrongClocks$Clock" "low" "I", Cond.methodLink RX6 153 Lib.Math.max.name, Cond.static Lib.Math.max.name, Cond.initialized "java/lang/Math", Cond.code Lib.Math.max.name Lib.Math.max.code 2 (some .int), Cond.methodLink RX6 147 yJ7_fill_53178, Cond.static yJ7_fill_53178, Cond.initialized RJ7, Cond.code yJ7_fill_53178 cJ7_fill_53178 4 none, Cond.methodLink RX6 110 yX0_dialAt, Cond.instanceMethod yX0_dialAt, Cond.selects RX0 yX0_dialAt yX0_dialAt, Cond.initialized RX0, Cond.code yX0_dialAt cX0_dialAt 3 (some .int), Cond.methodLink RX0 38 yX0_handAt, Cond.instanceMethod yX0_handAt, Cond.selects RX0 yX0_handAt yX0_handAt, Cond.code yX0_handAt cX0_handAt 3 (some .int), Cond.fieldLink RX0 18 "WrongClocks$Clock" "dial" "I", Cond.fieldLink RX0 15 "WrongClocks$Clock" "set" "I", Cond.methodLink RX0 34 yX0_way, Cond.instanceMethod yX0_way]
def wsX6_mostLeftBy_r2 : List Cond := [Cond.selects RX0 yX0_way yX0_way, Cond.code yX0_way cX0_way 4 (some .int), Cond.fieldLink RX0 9 "WrongClocks$Clock" "kind" "I", Cond.methodLink RX0 41 yJ9_floorDiv_7cf53, Cond.static yJ9_floorDiv_7cf53, Cond.initialized RJ9, Cond.code yJ9_floorDiv_7cf53 cJ9_floorDiv_7cf53 3 (some .int), Cond.methodLink RX0 46 yJ9_floorMod_7cf53, Cond.static yJ9_floorMod_7cf53, Cond.code yJ9_floorMod_7cf53 cJ9_floorMod_7cf53 3 (some .int)]
def wsX6_mostLeftBy : List Cond := .code yX6_mostLeftBy cX6_mostLeftBy 5 (some .int) :: ((wsX6_mostLeftBy_r1 ++ wsX6_mostLeftBy_r2) ++ wsX60 ++ wsX00)
def wsX6_next_r1 : List Cond := [Cond.fieldLink RX6 19 "WrongClocks" "present" "LWrongClocks$House;", Cond.fieldLink RX6 103 "WrongClocks$Clock" "read" "I", Cond.fieldLink RX6 97 "WrongClocks$Clock" "low" "I", Cond.fieldLink RX6 100 "WrongClocks$Clock" "high" "I", Cond.methodLink RX6 106 yX6_isBelow, Cond.static yX6_isBelow, Cond.initialized RX6, Cond.code yX6_isBelow cX6_isBelow 2 (some .boolean), Cond.methodLink RX6 123 yX6_sift, Cond.instanceMethod yX6_sift, Cond.selects RX6 yX6_sift yX6_sift, Cond.code yX6_sift cX6_sift 2 none, Cond.fieldLink RX6 52 "WrongClocks" "sifted" "Z", Cond.fieldLink RX6 48 "WrongClocks" "misfits" "[I", Cond.methodLink RX6 120 yX1_misfitsAt, Cond.instanceMethod yX1_misfitsAt, Cond.selects RX1 yX1_misfitsAt yX1_misfitsAt, Cond.initialized RX1, Cond.code yX1_misfitsAt cX1_misfitsAt 5 (some .int), Cond.fieldLink RX1 17 "WrongClocks$House" "clocks" "[LWrongClocks$Clock;", Cond.fieldLink RX1 44 "WrongClocks$Clock" "read" "I", Cond.methodLink RX1 47 yX0_canShow, Cond.instanceMethod yX0_canShow, Cond.selects RX0 yX0_canShow yX0_canShow]
def wsX6_next_r2 : List Cond := [Cond.initialized RX0, Cond.code yX0_canShow cX0_canShow 7 (some .boolean), Cond.fieldLink RX0 21 "WrongClocks$Clock" "low" "I", Cond.fieldLink RX0 24 "WrongClocks$Clock" "high" "I", Cond.methodLink RX0 49 Lib.Math.min.name, Cond.static Lib.Math.min.name, Cond.initialized "java/lang/Math", Cond.code Lib.Math.min.name Lib.Math.min.code 2 (some .int), Cond.methodLink RX0 52 Lib.Math.max.name, Cond.static Lib.Math.max.name, Cond.code Lib.Math.max.name Lib.Math.max.code 2 (some .int), Cond.methodLink RX0 38 yX0_handAt, Cond.instanceMethod yX0_handAt, Cond.selects RX0 yX0_handAt yX0_handAt, Cond.code yX0_handAt cX0_handAt 3 (some .int), Cond.fieldLink RX0 18 "WrongClocks$Clock" "dial" "I", Cond.fieldLink RX0 15 "WrongClocks$Clock" "set" "I", Cond.methodLink RX0 34 yX0_way, Cond.instanceMethod yX0_way, Cond.selects RX0 yX0_way yX0_way, Cond.code yX0_way cX0_way 4 (some .int), Cond.fieldLink RX0 9 "WrongClocks$Clock" "kind" "I", Cond.methodLink RX0 41 yJ9_floorDiv_7cf53, Cond.static yJ9_floorDiv_7cf53]
def wsX6_next_r3 : List Cond := [Cond.initialized RJ9, Cond.code yJ9_floorDiv_7cf53 cJ9_floorDiv_7cf53 3 (some .int), Cond.methodLink RX0 46 yJ9_floorMod_7cf53, Cond.static yJ9_floorMod_7cf53, Cond.code yJ9_floorMod_7cf53 cJ9_floorMod_7cf53 3 (some .int), Cond.methodLink RX6 84 yX1_toldClock, Cond.instanceMethod yX1_toldClock, Cond.selects RX1 yX1_toldClock yX1_toldClock, Cond.code yX1_toldClock cX1_toldClock 2 (some (.object "WrongClocks$Clock")), Cond.fieldLink RX1 40 "WrongClocks$Clock" "kind" "I", Cond.methodLink RX6 143 yX6_mostLeftBy, Cond.instanceMethod yX6_mostLeftBy, Cond.selects RX6 yX6_mostLeftBy yX6_mostLeftBy, Cond.code yX6_mostLeftBy cX6_mostLeftBy 5 (some .int), Cond.fieldLink RX6 56 "WrongClocks" "shown" "[I", Cond.methodLink RX6 153 Lib.Math.max.name, Cond.methodLink RX6 147 yJ7_fill_53178, Cond.static yJ7_fill_53178, Cond.initialized RJ7, Cond.code yJ7_fill_53178 cJ7_fill_53178 4 none, Cond.methodLink RX6 110 yX0_dialAt, Cond.instanceMethod yX0_dialAt, Cond.selects RX0 yX0_dialAt yX0_dialAt, Cond.code yX0_dialAt cX0_dialAt 3 (some .int)]
def wsX6_next : List Cond := .code yX6_next cX6_next 7 (some .int) :: ((wsX6_next_r1 ++ (wsX6_next_r2 ++ wsX6_next_r3)) ++ wsX60 ++ wsX00 ++ wsX10)
def wsX6_note : List Cond := .code yX6_note cX6_note 4 (some .int) :: ([.fieldLink RX6 19 "WrongClocks" "present" "LWrongClocks$House;", .fieldLink RX6 158 "WrongClocks$House" "notes" "LWrongClocks$Notes;", .fieldLink RX6 167 "WrongClocks$Notes" "many" "I", .methodLink RX6 84 yX1_toldClock, .instanceMethod yX1_toldClock, .selects RX1 yX1_toldClock yX1_toldClock, .initialized RX1, .code yX1_toldClock cX1_toldClock 2 (some (.object "WrongClocks$Clock")), .fieldLink RX1 17 "WrongClocks$House" "clocks" "[LWrongClocks$Clock;", .fieldLink RX1 40 "WrongClocks$Clock" "kind" "I", .static yX6_isBelow, .initialized RX6, .code yX6_isBelow cX6_isBelow 2 (some .boolean), .methodLink RX6 106 yX6_isBelow, .methodLink RX6 162 yX2_add, .instanceMethod yX2_add, .selects RX2 yX2_add yX2_add, .initialized RX2, .code yX2_add cX2_add 4 (some .boolean), .fieldLink RX2 9 "WrongClocks$Notes" "many" "I", .fieldLink RX2 15 "WrongClocks$Notes" "clocks" "[I", .fieldLink RX2 19 "WrongClocks$Notes" "minutes" "[I", .fieldLink RX2 22 "WrongClocks$Notes" "dials" "[I"] ++ wsX60 ++ wsX10 ++ wsX20 ++ wsX00)
def wsX6_burn : List Cond := .code yX6_burn cX6_burn 2 (some .int) :: ([.fieldLink RX6 19 "WrongClocks" "present" "LWrongClocks$House;", .fieldLink RX6 158 "WrongClocks$House" "notes" "LWrongClocks$Notes;", .fieldLink RX6 167 "WrongClocks$Notes" "many" "I"] ++ wsX60 ++ wsX10 ++ wsX20)
def wsX6_rates_r1 : List Cond := [Cond.fieldLink RX6 19 "WrongClocks" "present" "LWrongClocks$House;", Cond.fieldLink RX6 30 "WrongClocks" "tally" "LWrongClocks$Tally;", Cond.fieldLink RX6 158 "WrongClocks$House" "notes" "LWrongClocks$Notes;", Cond.methodLink RX6 84 yX1_toldClock, Cond.instanceMethod yX1_toldClock, Cond.selects RX1 yX1_toldClock yX1_toldClock, Cond.initialized RX1, Cond.code yX1_toldClock cX1_toldClock 2 (some (.object "WrongClocks$Clock")), Cond.fieldLink RX1 17 "WrongClocks$House" "clocks" "[LWrongClocks$Clock;", Cond.fieldLink RX1 40 "WrongClocks$Clock" "kind" "I", Cond.static yX6_isBelow, Cond.initialized RX6, Cond.code yX6_isBelow cX6_isBelow 2 (some .boolean), Cond.methodLink RX6 106 yX6_isBelow, Cond.methodLink RX6 126 yX4_clear, Cond.instanceMethod yX4_clear, Cond.selects RX4 yX4_clear yX4_clear, Cond.initialized RX4, Cond.code yX4_clear cX4_clear 1 none, Cond.fieldLink RX4 9 "WrongClocks$Tally" "many" "I", Cond.fieldLink RX4 15 "WrongClocks$Tally" "first" "I", Cond.fieldLink RX4 18 "WrongClocks$Tally" "last" "I", Cond.fieldLink RX4 21 "WrongClocks$Tally" "runs" "I", Cond.methodLink RX6 170 yX2_allow]
def wsX6_rates_r2 : List Cond := [Cond.instanceMethod yX2_allow, Cond.selects RX2 yX2_allow yX2_allow, Cond.initialized RX2, Cond.code yX2_allow cX2_allow 11 (some .boolean), Cond.fieldLink RX2 9 "WrongClocks$Notes" "many" "I", Cond.fieldLink RX2 15 "WrongClocks$Notes" "clocks" "[I", Cond.fieldLink RX2 22 "WrongClocks$Notes" "dials" "[I", Cond.fieldLink RX2 19 "WrongClocks$Notes" "minutes" "[I", Cond.constant RX2 35 (518400), Cond.constant RX2 36 (1036800), Cond.methodLink RX2 42 Lib.Math.min.name, Cond.static Lib.Math.min.name, Cond.initialized "java/lang/Math", Cond.code Lib.Math.min.name Lib.Math.min.code 2 (some .int), Cond.methodLink RX2 45 Lib.Math.max.name, Cond.static Lib.Math.max.name, Cond.code Lib.Math.max.name Lib.Math.max.code 2 (some .int), Cond.methodLink RX2 29 yX0_way, Cond.instanceMethod yX0_way, Cond.selects RX0 yX0_way yX0_way, Cond.initialized RX0, Cond.code yX0_way cX0_way 4 (some .int), Cond.fieldLink RX0 9 "WrongClocks$Clock" "kind" "I", Cond.methodLink RX2 37 yJ9_floorMod_7cf53]
def wsX6_rates_r3 : List Cond := [Cond.static yJ9_floorMod_7cf53, Cond.initialized RJ9, Cond.code yJ9_floorMod_7cf53 cJ9_floorMod_7cf53 3 (some .int), Cond.methodLink RX6 129 yX4_add, Cond.instanceMethod yX4_add, Cond.selects RX4 yX4_add yX4_add, Cond.code yX4_add cX4_add 2 none, Cond.methodLink RX6 132 yX4_tell, Cond.instanceMethod yX4_tell, Cond.selects RX4 yX4_tell yX4_tell, Cond.code yX4_tell cX4_tell 2 (some .int)]
def wsX6_rates : List Cond := .code yX6_rates cX6_rates 5 (some .int) :: ((wsX6_rates_r1 ++ (wsX6_rates_r2 ++ wsX6_rates_r3)) ++ wsX60 ++ wsX10 ++ wsX00 ++ wsX40 ++ wsX20)
def wsX6_canMeet : List Cond := .code yX6_canMeet cX6_canMeet 4 (some .boolean) :: ([.fieldLink RX6 19 "WrongClocks" "present" "LWrongClocks$House;", .fieldLink RX6 88 "WrongClocks$Clock" "kind" "I", .fieldLink RX6 97 "WrongClocks$Clock" "low" "I", .fieldLink RX6 100 "WrongClocks$Clock" "high" "I", .methodLink RX6 106 yX6_isBelow, .static yX6_isBelow, .initialized RX6, .code yX6_isBelow cX6_isBelow 2 (some .boolean), .methodLink RX6 138 yJ6_bitCount_0f7a4, .static yJ6_bitCount_0f7a4, .initialized RJ6, .code yJ6_bitCount_0f7a4 cJ6_bitCount_0f7a4 1 (some .int), .constant RJ6 265 (1431655765), .constant RJ6 266 (858993459), .constant RJ6 267 (252645135), .methodLink RX6 84 yX1_toldClock, .instanceMethod yX1_toldClock, .selects RX1 yX1_toldClock yX1_toldClock, .initialized RX1, .code yX1_toldClock cX1_toldClock 2 (some (.object "WrongClocks$Clock")), .fieldLink RX1 17 "WrongClocks$House" "clocks" "[LWrongClocks$Clock;", .fieldLink RX1 40 "WrongClocks$Clock" "kind" "I"] ++ wsX60 ++ wsX00 ++ wsX10)
def wsJ9_floorMod_f86c9 : List Cond := .code yJ9_floorMod_f86c9 cJ9_floorMod_f86c9 6 (some .long) :: ([])
def wsX6_commonDivisor : List Cond := .code yX6_commonDivisor cX6_commonDivisor 11 (some .long) :: ([])
def wsX6_sharedWithRound : List Cond := .code yX6_sharedWithRound cX6_sharedWithRound 2 (some .long) :: ([.constantLong RX6 188 (1036800), .methodLink RX6 194 Lib.MathLoose.max_long.x, .static Lib.MathLoose.max_long.x, .initialized "java/lang/Math", .code Lib.MathLoose.max_long.x Lib.MathLoose.max_long.code 4 (some .long), .methodLink RX6 196 yJ9_floorMod_f86c9, .static yJ9_floorMod_f86c9, .initialized RJ9, .code yJ9_floorMod_f86c9 cJ9_floorMod_f86c9 6 (some .long), .methodLink RX6 202 yX6_commonDivisor, .static yX6_commonDivisor, .initialized RX6, .code yX6_commonDivisor cX6_commonDivisor 11 (some .long)])
def wsX6_inverse : List Cond := .code yX6_inverse cX6_inverse 19 (some .long) :: ([.methodLink RX6 196 yJ9_floorMod_f86c9, .static yJ9_floorMod_f86c9, .initialized RJ9, .code yJ9_floorMod_f86c9 cJ9_floorMod_f86c9 6 (some .long)])
def wsX6_leastFactor : List Cond := .code yX6_leastFactor cX6_leastFactor 12 (some .long) :: ([.constantLong RX6 188 (1036800), .constantLong RX6 186 (-1), .methodLink RX6 194 Lib.MathLoose.max_long.x, .static Lib.MathLoose.max_long.x, .initialized "java/lang/Math", .code Lib.MathLoose.max_long.x Lib.MathLoose.max_long.code 4 (some .long), .methodLink RX6 196 yJ9_floorMod_f86c9, .static yJ9_floorMod_f86c9, .initialized RJ9, .code yJ9_floorMod_f86c9 cJ9_floorMod_f86c9 6 (some .long), .methodLink RX6 190 yX6_sharedWithRound, .static yX6_sharedWithRound, .initialized RX6, .code yX6_sharedWithRound cX6_sharedWithRound 2 (some .long), .methodLink RX6 202 yX6_commonDivisor, .static yX6_commonDivisor, .code yX6_commonDivisor cX6_commonDivisor 11 (some .long), .methodLink RX6 199 yX6_inverse, .static yX6_inverse, .code yX6_inverse cX6_inverse 19 (some .long)])
def wsX6_again_r1 : List Cond := [Cond.constant RX6 178 (9999999), Cond.fieldLink RX6 19 "WrongClocks" "present" "LWrongClocks$House;", Cond.fieldLink RX6 97 "WrongClocks$Clock" "low" "I", Cond.constantLong RX6 186 (-1), Cond.constantLong RX6 188 (1036800), Cond.methodLink RX6 194 Lib.MathLoose.max_long.x, Cond.static Lib.MathLoose.max_long.x, Cond.initialized "java/lang/Math", Cond.code Lib.MathLoose.max_long.x Lib.MathLoose.max_long.code 4 (some .long), Cond.methodLink RX6 174 yX6_canMeet, Cond.instanceMethod yX6_canMeet, Cond.selects RX6 yX6_canMeet yX6_canMeet, Cond.initialized RX6, Cond.code yX6_canMeet cX6_canMeet 4 (some .boolean), Cond.fieldLink RX6 88 "WrongClocks$Clock" "kind" "I", Cond.fieldLink RX6 100 "WrongClocks$Clock" "high" "I", Cond.methodLink RX6 106 yX6_isBelow, Cond.static yX6_isBelow, Cond.code yX6_isBelow cX6_isBelow 2 (some .boolean), Cond.methodLink RX6 138 yJ6_bitCount_0f7a4, Cond.static yJ6_bitCount_0f7a4, Cond.initialized RJ6, Cond.code yJ6_bitCount_0f7a4 cJ6_bitCount_0f7a4 1 (some .int), Cond.constant RJ6 265 (1431655765)]
def wsX6_again_r2 : List Cond := [Cond.constant RJ6 266 (858993459), Cond.constant RJ6 267 (252645135), Cond.methodLink RX6 84 yX1_toldClock, Cond.instanceMethod yX1_toldClock, Cond.selects RX1 yX1_toldClock yX1_toldClock, Cond.initialized RX1, Cond.code yX1_toldClock cX1_toldClock 2 (some (.object "WrongClocks$Clock")), Cond.fieldLink RX1 17 "WrongClocks$House" "clocks" "[LWrongClocks$Clock;", Cond.fieldLink RX1 40 "WrongClocks$Clock" "kind" "I", Cond.methodLink RX6 179 yX0_handAt, Cond.instanceMethod yX0_handAt, Cond.selects RX0 yX0_handAt yX0_handAt, Cond.initialized RX0, Cond.code yX0_handAt cX0_handAt 3 (some .int), Cond.fieldLink RX0 18 "WrongClocks$Clock" "dial" "I", Cond.fieldLink RX0 15 "WrongClocks$Clock" "set" "I", Cond.methodLink RX0 34 yX0_way, Cond.instanceMethod yX0_way, Cond.selects RX0 yX0_way yX0_way, Cond.code yX0_way cX0_way 4 (some .int), Cond.fieldLink RX0 9 "WrongClocks$Clock" "kind" "I", Cond.methodLink RX6 182 yX6_leastFactor, Cond.static yX6_leastFactor, Cond.code yX6_leastFactor cX6_leastFactor 12 (some .long)]
def wsX6_again_r3 : List Cond := [Cond.methodLink RX6 196 yJ9_floorMod_f86c9, Cond.static yJ9_floorMod_f86c9, Cond.initialized RJ9, Cond.code yJ9_floorMod_f86c9 cJ9_floorMod_f86c9 6 (some .long), Cond.methodLink RX6 190 yX6_sharedWithRound, Cond.static yX6_sharedWithRound, Cond.code yX6_sharedWithRound cX6_sharedWithRound 2 (some .long), Cond.methodLink RX6 202 yX6_commonDivisor, Cond.static yX6_commonDivisor, Cond.code yX6_commonDivisor cX6_commonDivisor 11 (some .long), Cond.methodLink RX6 199 yX6_inverse, Cond.static yX6_inverse, Cond.code yX6_inverse cX6_inverse 19 (some .long)]
def wsX6_again : List Cond := .code yX6_again cX6_again 16 (some .int) :: ((wsX6_again_r1 ++ (wsX6_again_r2 ++ wsX6_again_r3)) ++ wsX60 ++ wsX00 ++ wsX10)
def wsX6_stopped_r1 : List Cond := [Cond.fieldLink RX6 19 "WrongClocks" "present" "LWrongClocks$House;", Cond.fieldLink RX6 88 "WrongClocks$Clock" "kind" "I", Cond.fieldLink RX6 30 "WrongClocks" "tally" "LWrongClocks$Tally;", Cond.fieldLink RX6 94 "WrongClocks$Clock" "dial" "I", Cond.methodLink RX6 84 yX1_toldClock, Cond.instanceMethod yX1_toldClock, Cond.selects RX1 yX1_toldClock yX1_toldClock, Cond.initialized RX1, Cond.code yX1_toldClock cX1_toldClock 2 (some (.object "WrongClocks$Clock")), Cond.fieldLink RX1 17 "WrongClocks$House" "clocks" "[LWrongClocks$Clock;", Cond.fieldLink RX1 40 "WrongClocks$Clock" "kind" "I", Cond.static yX6_isBelow, Cond.initialized RX6, Cond.code yX6_isBelow cX6_isBelow 2 (some .boolean), Cond.methodLink RX6 106 yX6_isBelow, Cond.methodLink RX6 126 yX4_clear, Cond.instanceMethod yX4_clear, Cond.selects RX4 yX4_clear yX4_clear, Cond.initialized RX4, Cond.code yX4_clear cX4_clear 1 none, Cond.fieldLink RX4 9 "WrongClocks$Tally" "many" "I", Cond.fieldLink RX4 15 "WrongClocks$Tally" "first" "I", Cond.fieldLink RX4 18 "WrongClocks$Tally" "last" "I", Cond.fieldLink RX4 21 "WrongClocks$Tally" "runs" "I"]
def wsX6_stopped_r2 : List Cond := [Cond.methodLink RX6 114 yX0_canShow, Cond.instanceMethod yX0_canShow, Cond.selects RX0 yX0_canShow yX0_canShow, Cond.initialized RX0, Cond.code yX0_canShow cX0_canShow 7 (some .boolean), Cond.fieldLink RX0 21 "WrongClocks$Clock" "low" "I", Cond.fieldLink RX0 24 "WrongClocks$Clock" "high" "I", Cond.methodLink RX0 49 Lib.Math.min.name, Cond.static Lib.Math.min.name, Cond.initialized "java/lang/Math", Cond.code Lib.Math.min.name Lib.Math.min.code 2 (some .int), Cond.methodLink RX0 52 Lib.Math.max.name, Cond.static Lib.Math.max.name, Cond.code Lib.Math.max.name Lib.Math.max.code 2 (some .int), Cond.methodLink RX0 38 yX0_handAt, Cond.instanceMethod yX0_handAt, Cond.selects RX0 yX0_handAt yX0_handAt, Cond.code yX0_handAt cX0_handAt 3 (some .int), Cond.fieldLink RX0 18 "WrongClocks$Clock" "dial" "I", Cond.fieldLink RX0 15 "WrongClocks$Clock" "set" "I", Cond.methodLink RX0 34 yX0_way, Cond.instanceMethod yX0_way, Cond.selects RX0 yX0_way yX0_way, Cond.code yX0_way cX0_way 4 (some .int)]
def wsX6_stopped_r3 : List Cond := [Cond.fieldLink RX0 9 "WrongClocks$Clock" "kind" "I", Cond.methodLink RX0 41 yJ9_floorDiv_7cf53, Cond.static yJ9_floorDiv_7cf53, Cond.initialized RJ9, Cond.code yJ9_floorDiv_7cf53 cJ9_floorDiv_7cf53 3 (some .int), Cond.methodLink RX0 46 yJ9_floorMod_7cf53, Cond.static yJ9_floorMod_7cf53, Cond.code yJ9_floorMod_7cf53 cJ9_floorMod_7cf53 3 (some .int), Cond.methodLink RX6 129 yX4_add, Cond.instanceMethod yX4_add, Cond.selects RX4 yX4_add yX4_add, Cond.code yX4_add cX4_add 2 none, Cond.methodLink RX6 132 yX4_tell, Cond.instanceMethod yX4_tell, Cond.selects RX4 yX4_tell yX4_tell, Cond.code yX4_tell cX4_tell 2 (some .int)]
def wsX6_stopped : List Cond := .code yX6_stopped cX6_stopped 7 (some .int) :: ((wsX6_stopped_r1 ++ (wsX6_stopped_r2 ++ wsX6_stopped_r3)) ++ wsX60 ++ wsX00 ++ wsX10 ++ wsX40)
def wsX6_setBy_r1 : List Cond := [Cond.fieldLink RX6 19 "WrongClocks" "present" "LWrongClocks$House;", Cond.fieldLink RX6 88 "WrongClocks$Clock" "kind" "I", Cond.fieldLink RX6 103 "WrongClocks$Clock" "read" "I", Cond.fieldLink RX6 37 "WrongClocks" "trial" "LWrongClocks$Clock;", Cond.fieldLink RX6 30 "WrongClocks" "tally" "LWrongClocks$Tally;", Cond.fieldLink RX6 97 "WrongClocks$Clock" "low" "I", Cond.constant RX6 213 (1036800), Cond.constant RX6 216 (86400), Cond.fieldLink RX6 91 "WrongClocks$Clock" "set" "I", Cond.fieldLink RX6 94 "WrongClocks$Clock" "dial" "I", Cond.methodLink RX6 84 yX1_toldClock, Cond.instanceMethod yX1_toldClock, Cond.selects RX1 yX1_toldClock yX1_toldClock, Cond.initialized RX1, Cond.code yX1_toldClock cX1_toldClock 2 (some (.object "WrongClocks$Clock")), Cond.fieldLink RX1 17 "WrongClocks$House" "clocks" "[LWrongClocks$Clock;", Cond.fieldLink RX1 40 "WrongClocks$Clock" "kind" "I", Cond.static yX6_isBelow, Cond.initialized RX6, Cond.code yX6_isBelow cX6_isBelow 2 (some .boolean), Cond.methodLink RX6 106 yX6_isBelow, Cond.methodLink RX6 205 yX0_runsByOneRate, Cond.instanceMethod yX0_runsByOneRate, Cond.selects RX0 yX0_runsByOneRate yX0_runsByOneRate]
def wsX6_setBy_r2 : List Cond := [Cond.initialized RX0, Cond.code yX0_runsByOneRate cX0_runsByOneRate 1 (some .boolean), Cond.fieldLink RX0 9 "WrongClocks$Clock" "kind" "I", Cond.fieldLink RX0 21 "WrongClocks$Clock" "low" "I", Cond.fieldLink RX0 24 "WrongClocks$Clock" "high" "I", Cond.methodLink RX6 209 yX0_copy, Cond.instanceMethod yX0_copy, Cond.selects RX0 yX0_copy yX0_copy, Cond.code yX0_copy cX0_copy 2 none, Cond.fieldLink RX0 15 "WrongClocks$Clock" "set" "I", Cond.fieldLink RX0 18 "WrongClocks$Clock" "dial" "I", Cond.fieldLink RX0 27 "WrongClocks$Clock" "read" "I", Cond.methodLink RX0 30 yX0_tell, Cond.instanceMethod yX0_tell, Cond.selects RX0 yX0_tell yX0_tell, Cond.code yX0_tell cX0_tell 6 none, Cond.methodLink RX6 126 yX4_clear, Cond.instanceMethod yX4_clear, Cond.selects RX4 yX4_clear yX4_clear, Cond.initialized RX4, Cond.code yX4_clear cX4_clear 1 none, Cond.fieldLink RX4 9 "WrongClocks$Tally" "many" "I", Cond.fieldLink RX4 15 "WrongClocks$Tally" "first" "I", Cond.fieldLink RX4 18 "WrongClocks$Tally" "last" "I"]
def wsX6_setBy_r3 : List Cond := [Cond.fieldLink RX4 21 "WrongClocks$Tally" "runs" "I", Cond.methodLink RX6 179 yX0_handAt, Cond.instanceMethod yX0_handAt, Cond.selects RX0 yX0_handAt yX0_handAt, Cond.code yX0_handAt cX0_handAt 3 (some .int), Cond.methodLink RX0 34 yX0_way, Cond.instanceMethod yX0_way, Cond.selects RX0 yX0_way yX0_way, Cond.code yX0_way cX0_way 4 (some .int), Cond.methodLink RX6 214 yJ9_floorMod_7cf53, Cond.static yJ9_floorMod_7cf53, Cond.initialized RJ9, Cond.code yJ9_floorMod_7cf53 cJ9_floorMod_7cf53 3 (some .int), Cond.methodLink RX6 114 yX0_canShow, Cond.instanceMethod yX0_canShow, Cond.selects RX0 yX0_canShow yX0_canShow, Cond.code yX0_canShow cX0_canShow 7 (some .boolean), Cond.methodLink RX0 49 Lib.Math.min.name, Cond.static Lib.Math.min.name, Cond.initialized "java/lang/Math", Cond.code Lib.Math.min.name Lib.Math.min.code 2 (some .int), Cond.methodLink RX0 52 Lib.Math.max.name, Cond.static Lib.Math.max.name, Cond.code Lib.Math.max.name Lib.Math.max.code 2 (some .int)]
def wsX6_setBy_r4 : List Cond := [Cond.methodLink RX0 38 yX0_handAt, Cond.methodLink RX0 41 yJ9_floorDiv_7cf53, Cond.static yJ9_floorDiv_7cf53, Cond.code yJ9_floorDiv_7cf53 cJ9_floorDiv_7cf53 3 (some .int), Cond.methodLink RX0 46 yJ9_floorMod_7cf53, Cond.methodLink RX6 129 yX4_add, Cond.instanceMethod yX4_add, Cond.selects RX4 yX4_add yX4_add, Cond.code yX4_add cX4_add 2 none, Cond.methodLink RX6 132 yX4_tell, Cond.instanceMethod yX4_tell, Cond.selects RX4 yX4_tell yX4_tell, Cond.code yX4_tell cX4_tell 2 (some .int)]
def wsX6_setBy : List Cond := .code yX6_setBy cX6_setBy 9 (some .int) :: ((wsX6_setBy_r1 ++ (wsX6_setBy_r2 ++ (wsX6_setBy_r3 ++ wsX6_setBy_r4))) ++ wsX60 ++ wsX00 ++ wsX10 ++ wsX40)
def wsX6_leastOff : List Cond := .code yX6_leastOff cX6_leastOff 24 (some .long) :: ([.fieldLink RX6 97 "WrongClocks$Clock" "low" "I", .constantLong RX6 186 (-1), .methodLink RX6 230 Lib.MathLoose.abs_long.x, .static Lib.MathLoose.abs_long.x, .initialized "java/lang/Math", .code Lib.MathLoose.abs_long.x Lib.MathLoose.abs_long.code 2 (some .long), .methodLink RX6 227 yX0_partsToWholeMinute, .instanceMethod yX0_partsToWholeMinute, .selects RX0 yX0_partsToWholeMinute yX0_partsToWholeMinute, .initialized RX0, .code yX0_partsToWholeMinute cX0_partsToWholeMinute 2 (some .int), .fieldLink RX0 15 "WrongClocks$Clock" "set" "I", .fieldLink RX0 21 "WrongClocks$Clock" "low" "I", .methodLink RX0 46 yJ9_floorMod_7cf53, .static yJ9_floorMod_7cf53, .initialized RJ9, .code yJ9_floorMod_7cf53 cJ9_floorMod_7cf53 3 (some .int)] ++ wsX00)
def wsX6_egg_r1 : List Cond := [Cond.fieldLink RX6 19 "WrongClocks" "present" "LWrongClocks$House;", Cond.constantLong RX6 217 (-2), Cond.constantLong RX6 219 (-3), Cond.constantLong RX6 221 (-4), Cond.fieldLink RX6 97 "WrongClocks$Clock" "low" "I", Cond.methodLink RX6 194 Lib.MathLoose.max_long.x, Cond.static Lib.MathLoose.max_long.x, Cond.initialized "java/lang/Math", Cond.code Lib.MathLoose.max_long.x Lib.MathLoose.max_long.code 4 (some .long), Cond.methodLink RX6 84 yX1_toldClock, Cond.instanceMethod yX1_toldClock, Cond.selects RX1 yX1_toldClock yX1_toldClock, Cond.initialized RX1, Cond.code yX1_toldClock cX1_toldClock 2 (some (.object "WrongClocks$Clock")), Cond.fieldLink RX1 17 "WrongClocks$House" "clocks" "[LWrongClocks$Clock;", Cond.fieldLink RX1 40 "WrongClocks$Clock" "kind" "I", Cond.static yX6_isBelow, Cond.initialized RX6, Cond.code yX6_isBelow cX6_isBelow 2 (some .boolean), Cond.methodLink RX6 106 yX6_isBelow, Cond.methodLink RX6 205 yX0_runsByOneRate, Cond.instanceMethod yX0_runsByOneRate, Cond.selects RX0 yX0_runsByOneRate yX0_runsByOneRate, Cond.initialized RX0]
def wsX6_egg_r2 : List Cond := [Cond.code yX0_runsByOneRate cX0_runsByOneRate 1 (some .boolean), Cond.fieldLink RX0 9 "WrongClocks$Clock" "kind" "I", Cond.fieldLink RX0 21 "WrongClocks$Clock" "low" "I", Cond.fieldLink RX0 24 "WrongClocks$Clock" "high" "I", Cond.methodLink RX6 223 yX6_leastOff, Cond.static yX6_leastOff, Cond.code yX6_leastOff cX6_leastOff 24 (some .long), Cond.constantLong RX6 186 (-1), Cond.methodLink RX6 230 Lib.MathLoose.abs_long.x, Cond.static Lib.MathLoose.abs_long.x, Cond.code Lib.MathLoose.abs_long.x Lib.MathLoose.abs_long.code 2 (some .long), Cond.methodLink RX6 227 yX0_partsToWholeMinute, Cond.instanceMethod yX0_partsToWholeMinute, Cond.selects RX0 yX0_partsToWholeMinute yX0_partsToWholeMinute, Cond.code yX0_partsToWholeMinute cX0_partsToWholeMinute 2 (some .int), Cond.fieldLink RX0 15 "WrongClocks$Clock" "set" "I", Cond.methodLink RX0 46 yJ9_floorMod_7cf53, Cond.static yJ9_floorMod_7cf53, Cond.initialized RJ9, Cond.code yJ9_floorMod_7cf53 cJ9_floorMod_7cf53 3 (some .int), Cond.methodLink RX6 202 yX6_commonDivisor, Cond.static yX6_commonDivisor, Cond.code yX6_commonDivisor cX6_commonDivisor 11 (some .long)]
def wsX6_egg : List Cond := .code yX6_egg cX6_egg 14 (some .long) :: ((wsX6_egg_r1 ++ wsX6_egg_r2) ++ wsX60 ++ wsX00 ++ wsX10)
def wsX6_order_r1 : List Cond := [Cond.fieldLink RX6 44 "WrongClocks" "queue" "LWrongClocks$Queue;", Cond.fieldLink RX6 19 "WrongClocks" "present" "LWrongClocks$House;", Cond.fieldLink RX6 88 "WrongClocks$Clock" "kind" "I", Cond.fieldLink RX6 97 "WrongClocks$Clock" "low" "I", Cond.fieldLink RX6 100 "WrongClocks$Clock" "high" "I", Cond.fieldLink RX6 237 "WrongClocks$Queue" "many" "I", Cond.methodLink RX6 233 yX3_clear, Cond.instanceMethod yX3_clear, Cond.selects RX3 yX3_clear yX3_clear, Cond.initialized RX3, Cond.code yX3_clear cX3_clear 1 none, Cond.fieldLink RX3 9 "WrongClocks$Queue" "many" "I", Cond.methodLink RX6 84 yX1_toldClock, Cond.instanceMethod yX1_toldClock, Cond.selects RX1 yX1_toldClock yX1_toldClock, Cond.initialized RX1, Cond.code yX1_toldClock cX1_toldClock 2 (some (.object "WrongClocks$Clock")), Cond.fieldLink RX1 17 "WrongClocks$House" "clocks" "[LWrongClocks$Clock;", Cond.fieldLink RX1 40 "WrongClocks$Clock" "kind" "I", Cond.static yX6_isBelow, Cond.initialized RX6, Cond.code yX6_isBelow cX6_isBelow 2 (some .boolean), Cond.methodLink RX6 234 yX3_add, Cond.instanceMethod yX3_add]
def wsX6_order_r2 : List Cond := [Cond.selects RX3 yX3_add yX3_add, Cond.code yX3_add cX3_add 3 none, Cond.fieldLink RX3 15 "WrongClocks$Queue" "clocks" "[I", Cond.fieldLink RX3 19 "WrongClocks$Queue" "rates" "[I", Cond.methodLink RX6 238 yX3_weigh, Cond.instanceMethod yX3_weigh, Cond.selects RX3 yX3_weigh yX3_weigh, Cond.code yX3_weigh cX3_weigh 4 none, Cond.fieldLink RX3 22 "WrongClocks$Queue" "least" "[I", Cond.methodLink RX3 32 Lib.Math.max.name, Cond.static Lib.Math.max.name, Cond.initialized "java/lang/Math", Cond.code Lib.Math.max.name Lib.Math.max.code 2 (some .int), Cond.methodLink RX3 25 yX3_leastBehind, Cond.instanceMethod yX3_leastBehind, Cond.selects RX3 yX3_leastBehind yX3_leastBehind, Cond.code yX3_leastBehind cX3_leastBehind 2 (some .int), Cond.methodLink RX3 29 yX3_errorBehind, Cond.instanceMethod yX3_errorBehind, Cond.selects RX3 yX3_errorBehind yX3_errorBehind, Cond.code yX3_errorBehind cX3_errorBehind 4 (some .int), Cond.methodLink RX3 38 Lib.Math.abs.name, Cond.static Lib.Math.abs.name, Cond.code Lib.Math.abs.name Lib.Math.abs.code 1 (some .int)]
def wsX6_order_r3 : List Cond := [Cond.methodLink RX6 241 yX3_leastError, Cond.instanceMethod yX3_leastError, Cond.selects RX3 yX3_leastError yX3_leastError, Cond.code yX3_leastError cX3_leastError 1 (some .int), Cond.methodLink RX6 244 yX3_clockAt, Cond.instanceMethod yX3_clockAt, Cond.selects RX3 yX3_clockAt yX3_clockAt, Cond.code yX3_clockAt cX3_clockAt 5 (some .int), Cond.methodLink RX3 45 yX3_firstBehind, Cond.instanceMethod yX3_firstBehind, Cond.selects RX3 yX3_firstBehind yX3_firstBehind, Cond.code yX3_firstBehind cX3_firstBehind 3 (some .int)]
def wsX6_order : List Cond := .code yX6_order cX6_order 4 (some .int) :: ((wsX6_order_r1 ++ (wsX6_order_r2 ++ wsX6_order_r3)) ++ wsX60 ++ wsX00 ++ wsX30 ++ wsX10)
def wsX6_keep_r1 : List Cond := [Cond.fieldLink RX6 23 "WrongClocks" "kept" "[LWrongClocks$House;", Cond.fieldLink RX6 19 "WrongClocks" "present" "LWrongClocks$House;", Cond.fieldLink RX6 250 "WrongClocks$House" "filled" "Z", Cond.methodLink RX6 106 yX6_isBelow, Cond.static yX6_isBelow, Cond.initialized RX6, Cond.code yX6_isBelow cX6_isBelow 2 (some .boolean), Cond.methodLink RX6 247 yX1_copy, Cond.instanceMethod yX1_copy, Cond.selects RX1 yX1_copy yX1_copy, Cond.initialized RX1, Cond.code yX1_copy cX1_copy 3 none, Cond.fieldLink RX1 17 "WrongClocks$House" "clocks" "[LWrongClocks$Clock;", Cond.fieldLink RX1 24 "WrongClocks$House" "notes" "LWrongClocks$Notes;", Cond.methodLink RX1 29 yX0_copy, Cond.instanceMethod yX0_copy, Cond.selects RX0 yX0_copy yX0_copy, Cond.initialized RX0, Cond.code yX0_copy cX0_copy 2 none, Cond.fieldLink RX0 9 "WrongClocks$Clock" "kind" "I", Cond.fieldLink RX0 15 "WrongClocks$Clock" "set" "I", Cond.fieldLink RX0 18 "WrongClocks$Clock" "dial" "I", Cond.fieldLink RX0 21 "WrongClocks$Clock" "low" "I", Cond.fieldLink RX0 24 "WrongClocks$Clock" "high" "I"]
def wsX6_keep_r2 : List Cond := [Cond.fieldLink RX0 27 "WrongClocks$Clock" "read" "I", Cond.methodLink RX0 30 yX0_tell, Cond.instanceMethod yX0_tell, Cond.selects RX0 yX0_tell yX0_tell, Cond.code yX0_tell cX0_tell 6 none, Cond.methodLink RX1 33 yX2_copy, Cond.instanceMethod yX2_copy, Cond.selects RX2 yX2_copy yX2_copy, Cond.initialized RX2, Cond.code yX2_copy cX2_copy 3 none, Cond.fieldLink RX2 9 "WrongClocks$Notes" "many" "I", Cond.fieldLink RX2 15 "WrongClocks$Notes" "clocks" "[I", Cond.fieldLink RX2 19 "WrongClocks$Notes" "minutes" "[I", Cond.fieldLink RX2 22 "WrongClocks$Notes" "dials" "[I", Cond.methodLink RX2 25 yX2_add, Cond.instanceMethod yX2_add, Cond.selects RX2 yX2_add yX2_add, Cond.code yX2_add cX2_add 4 (some .boolean), Cond.methodLink RX6 69 yX1_toldBits, Cond.instanceMethod yX1_toldBits, Cond.selects RX1 yX1_toldBits yX1_toldBits, Cond.code yX1_toldBits cX1_toldBits 3 (some .int), Cond.fieldLink RX1 40 "WrongClocks$Clock" "kind" "I", Cond.methodLink RX6 138 yJ6_bitCount_0f7a4]
def wsX6_keep_r3 : List Cond := [Cond.static yJ6_bitCount_0f7a4, Cond.initialized RJ6, Cond.code yJ6_bitCount_0f7a4 cJ6_bitCount_0f7a4 1 (some .int), Cond.constant RJ6 265 (1431655765), Cond.constant RJ6 266 (858993459), Cond.constant RJ6 267 (252645135)]
def wsX6_keep : List Cond := .code yX6_keep cX6_keep 2 (some .int) :: ((wsX6_keep_r1 ++ (wsX6_keep_r2 ++ wsX6_keep_r3)) ++ wsX60 ++ wsX10 ++ wsX00 ++ wsX20)
def wsX6_back_r1 : List Cond := [Cond.fieldLink RX6 23 "WrongClocks" "kept" "[LWrongClocks$House;", Cond.fieldLink RX6 250 "WrongClocks$House" "filled" "Z", Cond.fieldLink RX6 19 "WrongClocks" "present" "LWrongClocks$House;", Cond.fieldLink RX6 52 "WrongClocks" "sifted" "Z", Cond.methodLink RX6 106 yX6_isBelow, Cond.static yX6_isBelow, Cond.initialized RX6, Cond.code yX6_isBelow cX6_isBelow 2 (some .boolean), Cond.methodLink RX6 247 yX1_copy, Cond.instanceMethod yX1_copy, Cond.selects RX1 yX1_copy yX1_copy, Cond.initialized RX1, Cond.code yX1_copy cX1_copy 3 none, Cond.fieldLink RX1 17 "WrongClocks$House" "clocks" "[LWrongClocks$Clock;", Cond.fieldLink RX1 24 "WrongClocks$House" "notes" "LWrongClocks$Notes;", Cond.methodLink RX1 29 yX0_copy, Cond.instanceMethod yX0_copy, Cond.selects RX0 yX0_copy yX0_copy, Cond.initialized RX0, Cond.code yX0_copy cX0_copy 2 none, Cond.fieldLink RX0 9 "WrongClocks$Clock" "kind" "I", Cond.fieldLink RX0 15 "WrongClocks$Clock" "set" "I", Cond.fieldLink RX0 18 "WrongClocks$Clock" "dial" "I", Cond.fieldLink RX0 21 "WrongClocks$Clock" "low" "I"]
def wsX6_back_r2 : List Cond := [Cond.fieldLink RX0 24 "WrongClocks$Clock" "high" "I", Cond.fieldLink RX0 27 "WrongClocks$Clock" "read" "I", Cond.methodLink RX0 30 yX0_tell, Cond.instanceMethod yX0_tell, Cond.selects RX0 yX0_tell yX0_tell, Cond.code yX0_tell cX0_tell 6 none, Cond.methodLink RX1 33 yX2_copy, Cond.instanceMethod yX2_copy, Cond.selects RX2 yX2_copy yX2_copy, Cond.initialized RX2, Cond.code yX2_copy cX2_copy 3 none, Cond.fieldLink RX2 9 "WrongClocks$Notes" "many" "I", Cond.fieldLink RX2 15 "WrongClocks$Notes" "clocks" "[I", Cond.fieldLink RX2 19 "WrongClocks$Notes" "minutes" "[I", Cond.fieldLink RX2 22 "WrongClocks$Notes" "dials" "[I", Cond.methodLink RX2 25 yX2_add, Cond.instanceMethod yX2_add, Cond.selects RX2 yX2_add yX2_add, Cond.code yX2_add cX2_add 4 (some .boolean), Cond.methodLink RX6 69 yX1_toldBits, Cond.instanceMethod yX1_toldBits, Cond.selects RX1 yX1_toldBits yX1_toldBits, Cond.code yX1_toldBits cX1_toldBits 3 (some .int), Cond.fieldLink RX1 40 "WrongClocks$Clock" "kind" "I"]
def wsX6_back_r3 : List Cond := [Cond.methodLink RX6 138 yJ6_bitCount_0f7a4, Cond.static yJ6_bitCount_0f7a4, Cond.initialized RJ6, Cond.code yJ6_bitCount_0f7a4 cJ6_bitCount_0f7a4 1 (some .int), Cond.constant RJ6 265 (1431655765), Cond.constant RJ6 266 (858993459), Cond.constant RJ6 267 (252645135)]
def wsX6_back : List Cond := .code yX6_back cX6_back 2 (some .int) :: ((wsX6_back_r1 ++ (wsX6_back_r2 ++ wsX6_back_r3)) ++ wsX60 ++ wsX10 ++ wsX00 ++ wsX20)
def wsX6_count : List Cond := .code yX6_count cX6_count 2 (some .int) :: ([.fieldLink RX6 19 "WrongClocks" "present" "LWrongClocks$House;", .fieldLink RX6 158 "WrongClocks$House" "notes" "LWrongClocks$Notes;", .fieldLink RX6 167 "WrongClocks$Notes" "many" "I", .fieldLink RX6 12 "WrongClocks" "text" "LWrongClocks$Text;", .fieldLink RX6 59 "WrongClocks$Text" "length" "I", .methodLink RX6 69 yX1_toldBits, .instanceMethod yX1_toldBits, .selects RX1 yX1_toldBits yX1_toldBits, .initialized RX1, .code yX1_toldBits cX1_toldBits 3 (some .int), .fieldLink RX1 17 "WrongClocks$House" "clocks" "[LWrongClocks$Clock;", .fieldLink RX1 40 "WrongClocks$Clock" "kind" "I", .methodLink RX6 117 yX1_readBits, .instanceMethod yX1_readBits, .selects RX1 yX1_readBits yX1_readBits, .code yX1_readBits cX1_readBits 3 (some .int), .fieldLink RX1 44 "WrongClocks$Clock" "read" "I"] ++ wsX60 ++ wsX10 ++ wsX20 ++ wsX50 ++ wsX00)
def wsX7_init : List Cond := .code yX7_init cX7_init 1 none :: ([.methodLink RX7 1 objectInit, .instanceMethod objectInit, .code objectInit ⟨#[0xb1]⟩ 1 none, .arrayClass .int, .fieldLink RX7 7 "WrongClocksModel" "clock" "[I", .fieldLink RX7 13 "WrongClocksModel" "note" "[I", .fieldLink RX7 16 "WrongClocksModel" "text" "[I", .fieldLink RX7 19 "WrongClocksModel" "read" "[I", .fieldLink RX7 22 "WrongClocksModel" "fit" "[I", .fieldLink RX7 25 "WrongClocksModel" "shown" "[I", .fieldLink RX7 28 "WrongClocksModel" "image" "[I", .arrayClass .boolean, .fieldLink RX7 31 "WrongClocksModel" "isKept" "[Z", .fieldLink RX7 35 "WrongClocksModel" "row" "[I", .fieldLink RX7 38 "WrongClocksModel" "best" "[I"] ++ wsX70)
def wsX7_in : List Cond := .code yX7_in cX7_in 3 (some .boolean) :: ([])
def wsX7_has : List Cond := .code yX7_has cX7_has 2 (some .boolean) :: ([])
def wsX7_bits : List Cond := .code yX7_bits cX7_bits 3 (some .int) :: ([])
def wsX7_isClock : List Cond := .code yX7_isClock cX7_isClock 2 (some .boolean) :: ([.fieldLink RX7 45 "WrongClocksModel" "told" "I", .methodLink RX7 41 yX7_in, .static yX7_in, .initialized RX7, .code yX7_in cX7_in 3 (some .boolean), .methodLink RX7 49 yX7_has, .static yX7_has, .code yX7_has cX7_has 2 (some .boolean)] ++ wsX70)
def wsX7_write : List Cond := .code yX7_write cX7_write 5 (some .int) :: ([.fieldLink RX7 53 "WrongClocksModel" "bytes" "I", .fieldLink RX7 16 "WrongClocksModel" "text" "[I", .constantLong RX7 56 (255), .methodLink RX7 41 yX7_in, .static yX7_in, .initialized RX7, .code yX7_in cX7_in 3 (some .boolean)] ++ wsX70)
def wsX7_erase : List Cond := .code yX7_erase cX7_erase 2 (some .int) :: ([.fieldLink RX7 53 "WrongClocksModel" "bytes" "I"] ++ wsX70)
def wsX7_nextToken : List Cond := .code yX7_nextToken cX7_nextToken 1 none :: ([.fieldLink RX7 58 "WrongClocksModel" "position" "I", .fieldLink RX7 53 "WrongClocksModel" "bytes" "I", .fieldLink RX7 16 "WrongClocksModel" "text" "[I", .fieldLink RX7 61 "WrongClocksModel" "tokenAt" "I", .fieldLink RX7 64 "WrongClocksModel" "digits" "I", .fieldLink RX7 67 "WrongClocksModel" "number" "I", .constantLong RX7 70 (-2), .fieldLink RX7 72 "WrongClocksModel" "token" "J", .constantLong RX7 76 (27), .constantLong RX7 78 (96), .constantLong RX7 80 (-4), .constantLong RX7 82 (-1), .constantLong RX7 84 (-3), .methodLink RX7 41 yX7_in, .static yX7_in, .initialized RX7, .code yX7_in cX7_in 3 (some .boolean)] ++ wsX70)
def wsX7_fails : List Cond := .code yX7_fails cX7_fails 1 (some .boolean) :: ([.fieldLink RX7 61 "WrongClocksModel" "tokenAt" "I", .fieldLink RX7 86 "WrongClocksModel" "faultAt" "I"] ++ wsX70)
def wsX7_isNumber_r1 : List Cond := [Cond.fieldLink RX7 72 "WrongClocksModel" "token" "J", Cond.constantLong RX7 82 (-1), Cond.fieldLink RX7 67 "WrongClocksModel" "number" "I", Cond.fieldLink RX7 19 "WrongClocksModel" "read" "[I", Cond.methodLink RX7 89 yX7_nextToken, Cond.instanceMethod yX7_nextToken, Cond.selects RX7 yX7_nextToken yX7_nextToken, Cond.initialized RX7, Cond.code yX7_nextToken cX7_nextToken 1 none, Cond.fieldLink RX7 58 "WrongClocksModel" "position" "I", Cond.fieldLink RX7 53 "WrongClocksModel" "bytes" "I", Cond.fieldLink RX7 16 "WrongClocksModel" "text" "[I", Cond.fieldLink RX7 61 "WrongClocksModel" "tokenAt" "I", Cond.fieldLink RX7 64 "WrongClocksModel" "digits" "I", Cond.constantLong RX7 70 (-2), Cond.constantLong RX7 76 (27), Cond.constantLong RX7 78 (96), Cond.constantLong RX7 80 (-4), Cond.constantLong RX7 84 (-3), Cond.methodLink RX7 41 yX7_in, Cond.static yX7_in, Cond.code yX7_in cX7_in 3 (some .boolean), Cond.methodLink RX7 92 yX7_fails, Cond.instanceMethod yX7_fails]
def wsX7_isNumber_r2 : List Cond := [Cond.selects RX7 yX7_fails yX7_fails, Cond.code yX7_fails cX7_fails 1 (some .boolean), Cond.fieldLink RX7 86 "WrongClocksModel" "faultAt" "I"]
def wsX7_isNumber : List Cond := .code yX7_isNumber cX7_isNumber 4 (some .boolean) :: ((wsX7_isNumber_r1 ++ wsX7_isNumber_r2) ++ wsX70)
def wsX7_isGoing_r1 : List Cond := [Cond.fieldLink RX7 19 "WrongClocksModel" "read" "[I", Cond.fieldLink RX7 99 "WrongClocksModel" "readTold" "I", Cond.methodLink RX7 96 yX7_isNumber, Cond.instanceMethod yX7_isNumber, Cond.selects RX7 yX7_isNumber yX7_isNumber, Cond.initialized RX7, Cond.code yX7_isNumber cX7_isNumber 4 (some .boolean), Cond.fieldLink RX7 72 "WrongClocksModel" "token" "J", Cond.constantLong RX7 82 (-1), Cond.fieldLink RX7 67 "WrongClocksModel" "number" "I", Cond.methodLink RX7 89 yX7_nextToken, Cond.instanceMethod yX7_nextToken, Cond.selects RX7 yX7_nextToken yX7_nextToken, Cond.code yX7_nextToken cX7_nextToken 1 none, Cond.fieldLink RX7 58 "WrongClocksModel" "position" "I", Cond.fieldLink RX7 53 "WrongClocksModel" "bytes" "I", Cond.fieldLink RX7 16 "WrongClocksModel" "text" "[I", Cond.fieldLink RX7 61 "WrongClocksModel" "tokenAt" "I", Cond.fieldLink RX7 64 "WrongClocksModel" "digits" "I", Cond.constantLong RX7 70 (-2), Cond.constantLong RX7 76 (27), Cond.constantLong RX7 78 (96), Cond.constantLong RX7 80 (-4), Cond.constantLong RX7 84 (-3)]
def wsX7_isGoing_r2 : List Cond := [Cond.methodLink RX7 41 yX7_in, Cond.static yX7_in, Cond.code yX7_in cX7_in 3 (some .boolean), Cond.methodLink RX7 92 yX7_fails, Cond.instanceMethod yX7_fails, Cond.selects RX7 yX7_fails yX7_fails, Cond.code yX7_fails cX7_fails 1 (some .boolean), Cond.fieldLink RX7 86 "WrongClocksModel" "faultAt" "I"]
def wsX7_isGoing : List Cond := .code yX7_isGoing cX7_isGoing 3 (some .boolean) :: ((wsX7_isGoing_r1 ++ wsX7_isGoing_r2) ++ wsX70)
def wsX7_isStopped_r1 : List Cond := [Cond.fieldLink RX7 99 "WrongClocksModel" "readTold" "I", Cond.fieldLink RX7 19 "WrongClocksModel" "read" "[I", Cond.methodLink RX7 96 yX7_isNumber, Cond.instanceMethod yX7_isNumber, Cond.selects RX7 yX7_isNumber yX7_isNumber, Cond.initialized RX7, Cond.code yX7_isNumber cX7_isNumber 4 (some .boolean), Cond.fieldLink RX7 72 "WrongClocksModel" "token" "J", Cond.constantLong RX7 82 (-1), Cond.fieldLink RX7 67 "WrongClocksModel" "number" "I", Cond.methodLink RX7 89 yX7_nextToken, Cond.instanceMethod yX7_nextToken, Cond.selects RX7 yX7_nextToken yX7_nextToken, Cond.code yX7_nextToken cX7_nextToken 1 none, Cond.fieldLink RX7 58 "WrongClocksModel" "position" "I", Cond.fieldLink RX7 53 "WrongClocksModel" "bytes" "I", Cond.fieldLink RX7 16 "WrongClocksModel" "text" "[I", Cond.fieldLink RX7 61 "WrongClocksModel" "tokenAt" "I", Cond.fieldLink RX7 64 "WrongClocksModel" "digits" "I", Cond.constantLong RX7 70 (-2), Cond.constantLong RX7 76 (27), Cond.constantLong RX7 78 (96), Cond.constantLong RX7 80 (-4), Cond.constantLong RX7 84 (-3)]
def wsX7_isStopped_r2 : List Cond := [Cond.methodLink RX7 41 yX7_in, Cond.static yX7_in, Cond.code yX7_in cX7_in 3 (some .boolean), Cond.methodLink RX7 92 yX7_fails, Cond.instanceMethod yX7_fails, Cond.selects RX7 yX7_fails yX7_fails, Cond.code yX7_fails cX7_fails 1 (some .boolean), Cond.fieldLink RX7 86 "WrongClocksModel" "faultAt" "I"]
def wsX7_isStopped : List Cond := .code yX7_isStopped cX7_isStopped 3 (some .boolean) :: ((wsX7_isStopped_r1 ++ wsX7_isStopped_r2) ++ wsX70)
def wsX7_isNow_r1 : List Cond := [Cond.fieldLink RX7 99 "WrongClocksModel" "readTold" "I", Cond.fieldLink RX7 19 "WrongClocksModel" "read" "[I", Cond.methodLink RX7 96 yX7_isNumber, Cond.instanceMethod yX7_isNumber, Cond.selects RX7 yX7_isNumber yX7_isNumber, Cond.initialized RX7, Cond.code yX7_isNumber cX7_isNumber 4 (some .boolean), Cond.fieldLink RX7 72 "WrongClocksModel" "token" "J", Cond.constantLong RX7 82 (-1), Cond.fieldLink RX7 67 "WrongClocksModel" "number" "I", Cond.methodLink RX7 89 yX7_nextToken, Cond.instanceMethod yX7_nextToken, Cond.selects RX7 yX7_nextToken yX7_nextToken, Cond.code yX7_nextToken cX7_nextToken 1 none, Cond.fieldLink RX7 58 "WrongClocksModel" "position" "I", Cond.fieldLink RX7 53 "WrongClocksModel" "bytes" "I", Cond.fieldLink RX7 16 "WrongClocksModel" "text" "[I", Cond.fieldLink RX7 61 "WrongClocksModel" "tokenAt" "I", Cond.fieldLink RX7 64 "WrongClocksModel" "digits" "I", Cond.constantLong RX7 70 (-2), Cond.constantLong RX7 76 (27), Cond.constantLong RX7 78 (96), Cond.constantLong RX7 80 (-4), Cond.constantLong RX7 84 (-3)]
def wsX7_isNow_r2 : List Cond := [Cond.methodLink RX7 41 yX7_in, Cond.static yX7_in, Cond.code yX7_in cX7_in 3 (some .boolean), Cond.methodLink RX7 92 yX7_fails, Cond.instanceMethod yX7_fails, Cond.selects RX7 yX7_fails yX7_fails, Cond.code yX7_fails cX7_fails 1 (some .boolean), Cond.fieldLink RX7 86 "WrongClocksModel" "faultAt" "I", Cond.methodLink RX7 49 yX7_has, Cond.static yX7_has, Cond.code yX7_has cX7_has 2 (some .boolean)]
def wsX7_isNow : List Cond := .code yX7_isNow cX7_isNow 2 (some .boolean) :: ((wsX7_isNow_r1 ++ wsX7_isNow_r2) ++ wsX70)
def wsX7_isGone_r1 : List Cond := [Cond.fieldLink RX7 99 "WrongClocksModel" "readTold" "I", Cond.fieldLink RX7 19 "WrongClocksModel" "read" "[I", Cond.methodLink RX7 96 yX7_isNumber, Cond.instanceMethod yX7_isNumber, Cond.selects RX7 yX7_isNumber yX7_isNumber, Cond.initialized RX7, Cond.code yX7_isNumber cX7_isNumber 4 (some .boolean), Cond.fieldLink RX7 72 "WrongClocksModel" "token" "J", Cond.constantLong RX7 82 (-1), Cond.fieldLink RX7 67 "WrongClocksModel" "number" "I", Cond.methodLink RX7 89 yX7_nextToken, Cond.instanceMethod yX7_nextToken, Cond.selects RX7 yX7_nextToken yX7_nextToken, Cond.code yX7_nextToken cX7_nextToken 1 none, Cond.fieldLink RX7 58 "WrongClocksModel" "position" "I", Cond.fieldLink RX7 53 "WrongClocksModel" "bytes" "I", Cond.fieldLink RX7 16 "WrongClocksModel" "text" "[I", Cond.fieldLink RX7 61 "WrongClocksModel" "tokenAt" "I", Cond.fieldLink RX7 64 "WrongClocksModel" "digits" "I", Cond.constantLong RX7 70 (-2), Cond.constantLong RX7 76 (27), Cond.constantLong RX7 78 (96), Cond.constantLong RX7 80 (-4), Cond.constantLong RX7 84 (-3)]
def wsX7_isGone_r2 : List Cond := [Cond.methodLink RX7 41 yX7_in, Cond.static yX7_in, Cond.code yX7_in cX7_in 3 (some .boolean), Cond.methodLink RX7 92 yX7_fails, Cond.instanceMethod yX7_fails, Cond.selects RX7 yX7_fails yX7_fails, Cond.code yX7_fails cX7_fails 1 (some .boolean), Cond.fieldLink RX7 86 "WrongClocksModel" "faultAt" "I"]
def wsX7_isGone : List Cond := .code yX7_isGone cX7_isGone 3 (some .boolean) :: ((wsX7_isGone_r1 ++ wsX7_isGone_r2) ++ wsX70)
def wsX7_isLine_r1 : List Cond := [Cond.fieldLink RX7 19 "WrongClocksModel" "read" "[I", Cond.fieldLink RX7 72 "WrongClocksModel" "token" "J", Cond.constantLong RX7 102 (4022278), Cond.constantLong RX7 104 (40187), Cond.constantLong RX7 106 (7656265777), Cond.constantLong RX7 108 (149099), Cond.constantLong RX7 110 (10634), Cond.constantLong RX7 112 (309125191), Cond.methodLink RX7 89 yX7_nextToken, Cond.instanceMethod yX7_nextToken, Cond.selects RX7 yX7_nextToken yX7_nextToken, Cond.initialized RX7, Cond.code yX7_nextToken cX7_nextToken 1 none, Cond.fieldLink RX7 58 "WrongClocksModel" "position" "I", Cond.fieldLink RX7 53 "WrongClocksModel" "bytes" "I", Cond.fieldLink RX7 16 "WrongClocksModel" "text" "[I", Cond.fieldLink RX7 61 "WrongClocksModel" "tokenAt" "I", Cond.fieldLink RX7 64 "WrongClocksModel" "digits" "I", Cond.fieldLink RX7 67 "WrongClocksModel" "number" "I", Cond.constantLong RX7 70 (-2), Cond.constantLong RX7 76 (27), Cond.constantLong RX7 78 (96), Cond.constantLong RX7 80 (-4), Cond.constantLong RX7 82 (-1)]
def wsX7_isLine_r2 : List Cond := [Cond.constantLong RX7 84 (-3), Cond.methodLink RX7 41 yX7_in, Cond.static yX7_in, Cond.code yX7_in cX7_in 3 (some .boolean), Cond.methodLink RX7 114 yX7_isGoing, Cond.instanceMethod yX7_isGoing, Cond.selects RX7 yX7_isGoing yX7_isGoing, Cond.code yX7_isGoing cX7_isGoing 3 (some .boolean), Cond.fieldLink RX7 99 "WrongClocksModel" "readTold" "I", Cond.methodLink RX7 96 yX7_isNumber, Cond.instanceMethod yX7_isNumber, Cond.selects RX7 yX7_isNumber yX7_isNumber, Cond.code yX7_isNumber cX7_isNumber 4 (some .boolean), Cond.methodLink RX7 92 yX7_fails, Cond.instanceMethod yX7_fails, Cond.selects RX7 yX7_fails yX7_fails, Cond.code yX7_fails cX7_fails 1 (some .boolean), Cond.fieldLink RX7 86 "WrongClocksModel" "faultAt" "I", Cond.methodLink RX7 118 yX7_isStopped, Cond.instanceMethod yX7_isStopped, Cond.selects RX7 yX7_isStopped yX7_isStopped, Cond.code yX7_isStopped cX7_isStopped 3 (some .boolean), Cond.methodLink RX7 121 yX7_isGone, Cond.instanceMethod yX7_isGone]
def wsX7_isLine_r3 : List Cond := [Cond.selects RX7 yX7_isGone yX7_isGone, Cond.code yX7_isGone cX7_isGone 3 (some .boolean), Cond.methodLink RX7 124 yX7_isNow, Cond.instanceMethod yX7_isNow, Cond.selects RX7 yX7_isNow yX7_isNow, Cond.code yX7_isNow cX7_isNow 2 (some .boolean), Cond.methodLink RX7 49 yX7_has, Cond.static yX7_has, Cond.code yX7_has cX7_has 2 (some .boolean)]
def wsX7_isLine : List Cond := .code yX7_isLine cX7_isLine 2 (some .boolean) :: ((wsX7_isLine_r1 ++ (wsX7_isLine_r2 ++ wsX7_isLine_r3)) ++ wsX70)
def wsX7_isText_r1 : List Cond := [Cond.fieldLink RX7 58 "WrongClocksModel" "position" "I", Cond.fieldLink RX7 127 "WrongClocksModel" "readMany" "I", Cond.fieldLink RX7 45 "WrongClocksModel" "told" "I", Cond.fieldLink RX7 99 "WrongClocksModel" "readTold" "I", Cond.fieldLink RX7 72 "WrongClocksModel" "token" "J", Cond.constantLong RX7 84 (-3), Cond.constantLong RX7 70 (-2), Cond.methodLink RX7 130 yX7_isLine, Cond.instanceMethod yX7_isLine, Cond.selects RX7 yX7_isLine yX7_isLine, Cond.initialized RX7, Cond.code yX7_isLine cX7_isLine 2 (some .boolean), Cond.fieldLink RX7 19 "WrongClocksModel" "read" "[I", Cond.constantLong RX7 102 (4022278), Cond.constantLong RX7 104 (40187), Cond.constantLong RX7 106 (7656265777), Cond.constantLong RX7 108 (149099), Cond.constantLong RX7 110 (10634), Cond.constantLong RX7 112 (309125191), Cond.methodLink RX7 89 yX7_nextToken, Cond.instanceMethod yX7_nextToken, Cond.selects RX7 yX7_nextToken yX7_nextToken, Cond.code yX7_nextToken cX7_nextToken 1 none, Cond.fieldLink RX7 53 "WrongClocksModel" "bytes" "I"]
def wsX7_isText_r2 : List Cond := [Cond.fieldLink RX7 16 "WrongClocksModel" "text" "[I", Cond.fieldLink RX7 61 "WrongClocksModel" "tokenAt" "I", Cond.fieldLink RX7 64 "WrongClocksModel" "digits" "I", Cond.fieldLink RX7 67 "WrongClocksModel" "number" "I", Cond.constantLong RX7 76 (27), Cond.constantLong RX7 78 (96), Cond.constantLong RX7 80 (-4), Cond.constantLong RX7 82 (-1), Cond.methodLink RX7 41 yX7_in, Cond.static yX7_in, Cond.code yX7_in cX7_in 3 (some .boolean), Cond.methodLink RX7 114 yX7_isGoing, Cond.instanceMethod yX7_isGoing, Cond.selects RX7 yX7_isGoing yX7_isGoing, Cond.code yX7_isGoing cX7_isGoing 3 (some .boolean), Cond.methodLink RX7 96 yX7_isNumber, Cond.instanceMethod yX7_isNumber, Cond.selects RX7 yX7_isNumber yX7_isNumber, Cond.code yX7_isNumber cX7_isNumber 4 (some .boolean), Cond.methodLink RX7 92 yX7_fails, Cond.instanceMethod yX7_fails, Cond.selects RX7 yX7_fails yX7_fails, Cond.code yX7_fails cX7_fails 1 (some .boolean), Cond.fieldLink RX7 86 "WrongClocksModel" "faultAt" "I"]
def wsX7_isText_r3 : List Cond := [Cond.methodLink RX7 118 yX7_isStopped, Cond.instanceMethod yX7_isStopped, Cond.selects RX7 yX7_isStopped yX7_isStopped, Cond.code yX7_isStopped cX7_isStopped 3 (some .boolean), Cond.methodLink RX7 121 yX7_isGone, Cond.instanceMethod yX7_isGone, Cond.selects RX7 yX7_isGone yX7_isGone, Cond.code yX7_isGone cX7_isGone 3 (some .boolean), Cond.methodLink RX7 124 yX7_isNow, Cond.instanceMethod yX7_isNow, Cond.selects RX7 yX7_isNow yX7_isNow, Cond.code yX7_isNow cX7_isNow 2 (some .boolean), Cond.methodLink RX7 49 yX7_has, Cond.static yX7_has, Cond.code yX7_has cX7_has 2 (some .boolean)]
def wsX7_isText : List Cond := .code yX7_isText cX7_isText 2 (some .boolean) :: ((wsX7_isText_r1 ++ (wsX7_isText_r2 ++ wsX7_isText_r3)) ++ wsX70)
def wsX7_fault_r1 : List Cond := [Cond.fieldLink RX7 86 "WrongClocksModel" "faultAt" "I", Cond.methodLink RX7 133 yX7_isText, Cond.instanceMethod yX7_isText, Cond.selects RX7 yX7_isText yX7_isText, Cond.initialized RX7, Cond.code yX7_isText cX7_isText 2 (some .boolean), Cond.fieldLink RX7 58 "WrongClocksModel" "position" "I", Cond.fieldLink RX7 127 "WrongClocksModel" "readMany" "I", Cond.fieldLink RX7 45 "WrongClocksModel" "told" "I", Cond.fieldLink RX7 99 "WrongClocksModel" "readTold" "I", Cond.fieldLink RX7 72 "WrongClocksModel" "token" "J", Cond.constantLong RX7 84 (-3), Cond.constantLong RX7 70 (-2), Cond.methodLink RX7 130 yX7_isLine, Cond.instanceMethod yX7_isLine, Cond.selects RX7 yX7_isLine yX7_isLine, Cond.code yX7_isLine cX7_isLine 2 (some .boolean), Cond.fieldLink RX7 19 "WrongClocksModel" "read" "[I", Cond.constantLong RX7 102 (4022278), Cond.constantLong RX7 104 (40187), Cond.constantLong RX7 106 (7656265777), Cond.constantLong RX7 108 (149099), Cond.constantLong RX7 110 (10634), Cond.constantLong RX7 112 (309125191)]
def wsX7_fault_r2 : List Cond := [Cond.methodLink RX7 89 yX7_nextToken, Cond.instanceMethod yX7_nextToken, Cond.selects RX7 yX7_nextToken yX7_nextToken, Cond.code yX7_nextToken cX7_nextToken 1 none, Cond.fieldLink RX7 53 "WrongClocksModel" "bytes" "I", Cond.fieldLink RX7 16 "WrongClocksModel" "text" "[I", Cond.fieldLink RX7 61 "WrongClocksModel" "tokenAt" "I", Cond.fieldLink RX7 64 "WrongClocksModel" "digits" "I", Cond.fieldLink RX7 67 "WrongClocksModel" "number" "I", Cond.constantLong RX7 76 (27), Cond.constantLong RX7 78 (96), Cond.constantLong RX7 80 (-4), Cond.constantLong RX7 82 (-1), Cond.methodLink RX7 41 yX7_in, Cond.static yX7_in, Cond.code yX7_in cX7_in 3 (some .boolean), Cond.methodLink RX7 114 yX7_isGoing, Cond.instanceMethod yX7_isGoing, Cond.selects RX7 yX7_isGoing yX7_isGoing, Cond.code yX7_isGoing cX7_isGoing 3 (some .boolean), Cond.methodLink RX7 96 yX7_isNumber, Cond.instanceMethod yX7_isNumber, Cond.selects RX7 yX7_isNumber yX7_isNumber, Cond.code yX7_isNumber cX7_isNumber 4 (some .boolean)]
def wsX7_fault_r3 : List Cond := [Cond.methodLink RX7 92 yX7_fails, Cond.instanceMethod yX7_fails, Cond.selects RX7 yX7_fails yX7_fails, Cond.code yX7_fails cX7_fails 1 (some .boolean), Cond.methodLink RX7 118 yX7_isStopped, Cond.instanceMethod yX7_isStopped, Cond.selects RX7 yX7_isStopped yX7_isStopped, Cond.code yX7_isStopped cX7_isStopped 3 (some .boolean), Cond.methodLink RX7 121 yX7_isGone, Cond.instanceMethod yX7_isGone, Cond.selects RX7 yX7_isGone yX7_isGone, Cond.code yX7_isGone cX7_isGone 3 (some .boolean), Cond.methodLink RX7 124 yX7_isNow, Cond.instanceMethod yX7_isNow, Cond.selects RX7 yX7_isNow yX7_isNow, Cond.code yX7_isNow cX7_isNow 2 (some .boolean), Cond.methodLink RX7 49 yX7_has, Cond.static yX7_has, Cond.code yX7_has cX7_has 2 (some .boolean)]
def wsX7_fault : List Cond := .code yX7_fault cX7_fault 1 (some .int) :: ((wsX7_fault_r1 ++ (wsX7_fault_r2 ++ wsX7_fault_r3)) ++ wsX70)
def wsX7_doLine : List Cond := .code yX7_doLine cX7_doLine 3 none :: ([.fieldLink RX7 19 "WrongClocksModel" "read" "[I", .fieldLink RX7 45 "WrongClocksModel" "told" "I", .fieldLink RX7 136 "WrongClocksModel" "isRead1" "I", .fieldLink RX7 7 "WrongClocksModel" "clock" "[I"] ++ wsX70)
def wsX7_house_r1 : List Cond := [Cond.fieldLink RX7 127 "WrongClocksModel" "readMany" "I", Cond.fieldLink RX7 53 "WrongClocksModel" "bytes" "I", Cond.methodLink RX7 133 yX7_isText, Cond.instanceMethod yX7_isText, Cond.selects RX7 yX7_isText yX7_isText, Cond.initialized RX7, Cond.code yX7_isText cX7_isText 2 (some .boolean), Cond.fieldLink RX7 58 "WrongClocksModel" "position" "I", Cond.fieldLink RX7 45 "WrongClocksModel" "told" "I", Cond.fieldLink RX7 99 "WrongClocksModel" "readTold" "I", Cond.fieldLink RX7 72 "WrongClocksModel" "token" "J", Cond.constantLong RX7 84 (-3), Cond.constantLong RX7 70 (-2), Cond.methodLink RX7 130 yX7_isLine, Cond.instanceMethod yX7_isLine, Cond.selects RX7 yX7_isLine yX7_isLine, Cond.code yX7_isLine cX7_isLine 2 (some .boolean), Cond.fieldLink RX7 19 "WrongClocksModel" "read" "[I", Cond.constantLong RX7 102 (4022278), Cond.constantLong RX7 104 (40187), Cond.constantLong RX7 106 (7656265777), Cond.constantLong RX7 108 (149099), Cond.constantLong RX7 110 (10634), Cond.constantLong RX7 112 (309125191)]
def wsX7_house_r2 : List Cond := [Cond.methodLink RX7 89 yX7_nextToken, Cond.instanceMethod yX7_nextToken, Cond.selects RX7 yX7_nextToken yX7_nextToken, Cond.code yX7_nextToken cX7_nextToken 1 none, Cond.fieldLink RX7 16 "WrongClocksModel" "text" "[I", Cond.fieldLink RX7 61 "WrongClocksModel" "tokenAt" "I", Cond.fieldLink RX7 64 "WrongClocksModel" "digits" "I", Cond.fieldLink RX7 67 "WrongClocksModel" "number" "I", Cond.constantLong RX7 76 (27), Cond.constantLong RX7 78 (96), Cond.constantLong RX7 80 (-4), Cond.constantLong RX7 82 (-1), Cond.methodLink RX7 41 yX7_in, Cond.static yX7_in, Cond.code yX7_in cX7_in 3 (some .boolean), Cond.methodLink RX7 114 yX7_isGoing, Cond.instanceMethod yX7_isGoing, Cond.selects RX7 yX7_isGoing yX7_isGoing, Cond.code yX7_isGoing cX7_isGoing 3 (some .boolean), Cond.methodLink RX7 96 yX7_isNumber, Cond.instanceMethod yX7_isNumber, Cond.selects RX7 yX7_isNumber yX7_isNumber, Cond.code yX7_isNumber cX7_isNumber 4 (some .boolean), Cond.methodLink RX7 92 yX7_fails]
def wsX7_house_r3 : List Cond := [Cond.instanceMethod yX7_fails, Cond.selects RX7 yX7_fails yX7_fails, Cond.code yX7_fails cX7_fails 1 (some .boolean), Cond.fieldLink RX7 86 "WrongClocksModel" "faultAt" "I", Cond.methodLink RX7 118 yX7_isStopped, Cond.instanceMethod yX7_isStopped, Cond.selects RX7 yX7_isStopped yX7_isStopped, Cond.code yX7_isStopped cX7_isStopped 3 (some .boolean), Cond.methodLink RX7 121 yX7_isGone, Cond.instanceMethod yX7_isGone, Cond.selects RX7 yX7_isGone yX7_isGone, Cond.code yX7_isGone cX7_isGone 3 (some .boolean), Cond.methodLink RX7 124 yX7_isNow, Cond.instanceMethod yX7_isNow, Cond.selects RX7 yX7_isNow yX7_isNow, Cond.code yX7_isNow cX7_isNow 2 (some .boolean), Cond.methodLink RX7 49 yX7_has, Cond.static yX7_has, Cond.code yX7_has cX7_has 2 (some .boolean), Cond.methodLink RX7 139 yX7_doLine, Cond.instanceMethod yX7_doLine, Cond.selects RX7 yX7_doLine yX7_doLine, Cond.code yX7_doLine cX7_doLine 3 none, Cond.fieldLink RX7 136 "WrongClocksModel" "isRead1" "I"]
def wsX7_house_r4 : List Cond := [Cond.fieldLink RX7 7 "WrongClocksModel" "clock" "[I"]
def wsX7_house : List Cond := .code yX7_house cX7_house 2 (some .int) :: ((wsX7_house_r1 ++ (wsX7_house_r2 ++ (wsX7_house_r3 ++ wsX7_house_r4))) ++ wsX70)
def wsX7_clock : List Cond := .code yX7_clock cX7_clock 4 (some .int) :: ([.fieldLink RX7 7 "WrongClocksModel" "clock" "[I", .fieldLink RX7 136 "WrongClocksModel" "isRead1" "I", .methodLink RX7 143 yX7_isClock, .instanceMethod yX7_isClock, .selects RX7 yX7_isClock yX7_isClock, .initialized RX7, .code yX7_isClock cX7_isClock 2 (some .boolean), .fieldLink RX7 45 "WrongClocksModel" "told" "I", .methodLink RX7 41 yX7_in, .static yX7_in, .code yX7_in cX7_in 3 (some .boolean), .methodLink RX7 49 yX7_has, .static yX7_has, .code yX7_has cX7_has 2 (some .boolean)] ++ wsX70)
def wsX7_rest : List Cond := .code yX7_rest cX7_rest 3 (some .int) :: ([])
def wsX7_down : List Cond := .code yX7_down cX7_down 2 (some .int) :: ([.methodLink RX7 146 yX7_rest, .static yX7_rest, .initialized RX7, .code yX7_rest cX7_rest 3 (some .int)])
def wsX7_hand : List Cond := .code yX7_hand cX7_hand 5 (some .int) :: ([.fieldLink RX7 7 "WrongClocksModel" "clock" "[I"] ++ wsX70)
def wsX7_isMinute : List Cond := .code yX7_isMinute cX7_isMinute 1 (some .boolean) :: ([.methodLink RX7 41 yX7_in, .static yX7_in, .initialized RX7, .code yX7_in cX7_in 3 (some .boolean)])
def wsX7_shows_r1 : List Cond := [Cond.fieldLink RX7 7 "WrongClocksModel" "clock" "[I", Cond.methodLink RX7 143 yX7_isClock, Cond.instanceMethod yX7_isClock, Cond.selects RX7 yX7_isClock yX7_isClock, Cond.initialized RX7, Cond.code yX7_isClock cX7_isClock 2 (some .boolean), Cond.fieldLink RX7 45 "WrongClocksModel" "told" "I", Cond.methodLink RX7 41 yX7_in, Cond.static yX7_in, Cond.code yX7_in cX7_in 3 (some .boolean), Cond.methodLink RX7 49 yX7_has, Cond.static yX7_has, Cond.code yX7_has cX7_has 2 (some .boolean), Cond.methodLink RX7 150 yX7_isMinute, Cond.static yX7_isMinute, Cond.code yX7_isMinute cX7_isMinute 1 (some .boolean), Cond.methodLink RX7 153 yX7_hand, Cond.instanceMethod yX7_hand, Cond.selects RX7 yX7_hand yX7_hand, Cond.code yX7_hand cX7_hand 5 (some .int), Cond.methodLink RX7 157 yX7_down, Cond.static yX7_down, Cond.code yX7_down cX7_down 2 (some .int), Cond.methodLink RX7 146 yX7_rest]
def wsX7_shows_r2 : List Cond := [Cond.static yX7_rest, Cond.code yX7_rest cX7_rest 3 (some .int)]
def wsX7_shows : List Cond := .code yX7_shows cX7_shows 4 (some .int) :: ((wsX7_shows_r1 ++ wsX7_shows_r2) ++ wsX70)
def wsX7_isBetween : List Cond := .code yX7_isBetween cX7_isBetween 5 (some .boolean) :: ([.methodLink RX7 157 yX7_down, .static yX7_down, .initialized RX7, .code yX7_down cX7_down 2 (some .int), .methodLink RX7 146 yX7_rest, .static yX7_rest, .code yX7_rest cX7_rest 3 (some .int)])
def wsX7_canShow : List Cond := .code yX7_canShow cX7_canShow 4 (some .boolean) :: ([.fieldLink RX7 7 "WrongClocksModel" "clock" "[I", .methodLink RX7 153 yX7_hand, .instanceMethod yX7_hand, .selects RX7 yX7_hand yX7_hand, .initialized RX7, .code yX7_hand cX7_hand 5 (some .int), .methodLink RX7 160 yX7_isBetween, .static yX7_isBetween, .code yX7_isBetween cX7_isBetween 5 (some .boolean), .methodLink RX7 157 yX7_down, .static yX7_down, .code yX7_down cX7_down 2 (some .int), .methodLink RX7 146 yX7_rest, .static yX7_rest, .code yX7_rest cX7_rest 3 (some .int)] ++ wsX70)
def wsX7_can_r1 : List Cond := [Cond.methodLink RX7 143 yX7_isClock, Cond.instanceMethod yX7_isClock, Cond.selects RX7 yX7_isClock yX7_isClock, Cond.initialized RX7, Cond.code yX7_isClock cX7_isClock 2 (some .boolean), Cond.fieldLink RX7 45 "WrongClocksModel" "told" "I", Cond.methodLink RX7 41 yX7_in, Cond.static yX7_in, Cond.code yX7_in cX7_in 3 (some .boolean), Cond.methodLink RX7 49 yX7_has, Cond.static yX7_has, Cond.code yX7_has cX7_has 2 (some .boolean), Cond.methodLink RX7 150 yX7_isMinute, Cond.static yX7_isMinute, Cond.code yX7_isMinute cX7_isMinute 1 (some .boolean), Cond.methodLink RX7 163 yX7_canShow, Cond.instanceMethod yX7_canShow, Cond.selects RX7 yX7_canShow yX7_canShow, Cond.code yX7_canShow cX7_canShow 4 (some .boolean), Cond.fieldLink RX7 7 "WrongClocksModel" "clock" "[I", Cond.methodLink RX7 153 yX7_hand, Cond.instanceMethod yX7_hand, Cond.selects RX7 yX7_hand yX7_hand, Cond.code yX7_hand cX7_hand 5 (some .int)]
def wsX7_can_r2 : List Cond := [Cond.methodLink RX7 160 yX7_isBetween, Cond.static yX7_isBetween, Cond.code yX7_isBetween cX7_isBetween 5 (some .boolean), Cond.methodLink RX7 157 yX7_down, Cond.static yX7_down, Cond.code yX7_down cX7_down 2 (some .int), Cond.methodLink RX7 146 yX7_rest, Cond.static yX7_rest, Cond.code yX7_rest cX7_rest 3 (some .int)]
def wsX7_can : List Cond := .code yX7_can cX7_can 4 (some .int) :: ((wsX7_can_r1 ++ wsX7_can_r2) ++ wsX70)
def wsX7_fitAt : List Cond := .code yX7_fitAt cX7_fitAt 4 (some .int) :: ([.fieldLink RX7 136 "WrongClocksModel" "isRead1" "I", .fieldLink RX7 7 "WrongClocksModel" "clock" "[I", .methodLink RX7 49 yX7_has, .static yX7_has, .initialized RX7, .code yX7_has cX7_has 2 (some .boolean), .methodLink RX7 163 yX7_canShow, .instanceMethod yX7_canShow, .selects RX7 yX7_canShow yX7_canShow, .code yX7_canShow cX7_canShow 4 (some .boolean), .methodLink RX7 153 yX7_hand, .instanceMethod yX7_hand, .selects RX7 yX7_hand yX7_hand, .code yX7_hand cX7_hand 5 (some .int), .methodLink RX7 160 yX7_isBetween, .static yX7_isBetween, .code yX7_isBetween cX7_isBetween 5 (some .boolean), .methodLink RX7 157 yX7_down, .static yX7_down, .code yX7_down cX7_down 2 (some .int), .methodLink RX7 146 yX7_rest, .static yX7_rest, .code yX7_rest cX7_rest 3 (some .int)] ++ wsX70)
def wsX7_fits_r1 : List Cond := [Cond.methodLink RX7 150 yX7_isMinute, Cond.static yX7_isMinute, Cond.initialized RX7, Cond.code yX7_isMinute cX7_isMinute 1 (some .boolean), Cond.methodLink RX7 41 yX7_in, Cond.static yX7_in, Cond.code yX7_in cX7_in 3 (some .boolean), Cond.methodLink RX7 166 yX7_fitAt, Cond.instanceMethod yX7_fitAt, Cond.selects RX7 yX7_fitAt yX7_fitAt, Cond.code yX7_fitAt cX7_fitAt 4 (some .int), Cond.fieldLink RX7 136 "WrongClocksModel" "isRead1" "I", Cond.fieldLink RX7 7 "WrongClocksModel" "clock" "[I", Cond.methodLink RX7 49 yX7_has, Cond.static yX7_has, Cond.code yX7_has cX7_has 2 (some .boolean), Cond.methodLink RX7 163 yX7_canShow, Cond.instanceMethod yX7_canShow, Cond.selects RX7 yX7_canShow yX7_canShow, Cond.code yX7_canShow cX7_canShow 4 (some .boolean), Cond.methodLink RX7 153 yX7_hand, Cond.instanceMethod yX7_hand, Cond.selects RX7 yX7_hand yX7_hand, Cond.code yX7_hand cX7_hand 5 (some .int)]
def wsX7_fits_r2 : List Cond := [Cond.methodLink RX7 160 yX7_isBetween, Cond.static yX7_isBetween, Cond.code yX7_isBetween cX7_isBetween 5 (some .boolean), Cond.methodLink RX7 157 yX7_down, Cond.static yX7_down, Cond.code yX7_down cX7_down 2 (some .int), Cond.methodLink RX7 146 yX7_rest, Cond.static yX7_rest, Cond.code yX7_rest cX7_rest 3 (some .int)]
def wsX7_fits : List Cond := .code yX7_fits cX7_fits 2 (some .int) :: ((wsX7_fits_r1 ++ wsX7_fits_r2) ++ wsX70)
def wsX7_layFits_r1 : List Cond := [Cond.fieldLink RX7 22 "WrongClocksModel" "fit" "[I", Cond.methodLink RX7 166 yX7_fitAt, Cond.instanceMethod yX7_fitAt, Cond.selects RX7 yX7_fitAt yX7_fitAt, Cond.initialized RX7, Cond.code yX7_fitAt cX7_fitAt 4 (some .int), Cond.fieldLink RX7 136 "WrongClocksModel" "isRead1" "I", Cond.fieldLink RX7 7 "WrongClocksModel" "clock" "[I", Cond.methodLink RX7 49 yX7_has, Cond.static yX7_has, Cond.code yX7_has cX7_has 2 (some .boolean), Cond.methodLink RX7 163 yX7_canShow, Cond.instanceMethod yX7_canShow, Cond.selects RX7 yX7_canShow yX7_canShow, Cond.code yX7_canShow cX7_canShow 4 (some .boolean), Cond.methodLink RX7 153 yX7_hand, Cond.instanceMethod yX7_hand, Cond.selects RX7 yX7_hand yX7_hand, Cond.code yX7_hand cX7_hand 5 (some .int), Cond.methodLink RX7 160 yX7_isBetween, Cond.static yX7_isBetween, Cond.code yX7_isBetween cX7_isBetween 5 (some .boolean), Cond.methodLink RX7 157 yX7_down, Cond.static yX7_down]
def wsX7_layFits_r2 : List Cond := [Cond.code yX7_down cX7_down 2 (some .int), Cond.methodLink RX7 146 yX7_rest, Cond.static yX7_rest, Cond.code yX7_rest cX7_rest 3 (some .int)]
def wsX7_layFits : List Cond := .code yX7_layFits cX7_layFits 2 none :: ((wsX7_layFits_r1 ++ wsX7_layFits_r2) ++ wsX70)
def wsX7_times_r1 : List Cond := [Cond.fieldLink RX7 22 "WrongClocksModel" "fit" "[I", Cond.fieldLink RX7 136 "WrongClocksModel" "isRead1" "I", Cond.methodLink RX7 41 yX7_in, Cond.static yX7_in, Cond.initialized RX7, Cond.code yX7_in cX7_in 3 (some .boolean), Cond.methodLink RX7 170 yX7_layFits, Cond.instanceMethod yX7_layFits, Cond.selects RX7 yX7_layFits yX7_layFits, Cond.code yX7_layFits cX7_layFits 2 none, Cond.methodLink RX7 166 yX7_fitAt, Cond.instanceMethod yX7_fitAt, Cond.selects RX7 yX7_fitAt yX7_fitAt, Cond.code yX7_fitAt cX7_fitAt 4 (some .int), Cond.fieldLink RX7 7 "WrongClocksModel" "clock" "[I", Cond.methodLink RX7 49 yX7_has, Cond.static yX7_has, Cond.code yX7_has cX7_has 2 (some .boolean), Cond.methodLink RX7 163 yX7_canShow, Cond.instanceMethod yX7_canShow, Cond.selects RX7 yX7_canShow yX7_canShow, Cond.code yX7_canShow cX7_canShow 4 (some .boolean), Cond.methodLink RX7 153 yX7_hand, Cond.instanceMethod yX7_hand]
def wsX7_times_r2 : List Cond := [Cond.selects RX7 yX7_hand yX7_hand, Cond.code yX7_hand cX7_hand 5 (some .int), Cond.methodLink RX7 160 yX7_isBetween, Cond.static yX7_isBetween, Cond.code yX7_isBetween cX7_isBetween 5 (some .boolean), Cond.methodLink RX7 157 yX7_down, Cond.static yX7_down, Cond.code yX7_down cX7_down 2 (some .int), Cond.methodLink RX7 146 yX7_rest, Cond.static yX7_rest, Cond.code yX7_rest cX7_rest 3 (some .int)]
def wsX7_times : List Cond := .code yX7_times cX7_times 7 (some .int) :: ((wsX7_times_r1 ++ wsX7_times_r2) ++ wsX70)
def wsX7_liars_r1 : List Cond := [Cond.fieldLink RX7 136 "WrongClocksModel" "isRead1" "I", Cond.fieldLink RX7 22 "WrongClocksModel" "fit" "[I", Cond.methodLink RX7 41 yX7_in, Cond.static yX7_in, Cond.initialized RX7, Cond.code yX7_in cX7_in 3 (some .boolean), Cond.methodLink RX7 170 yX7_layFits, Cond.instanceMethod yX7_layFits, Cond.selects RX7 yX7_layFits yX7_layFits, Cond.code yX7_layFits cX7_layFits 2 none, Cond.methodLink RX7 166 yX7_fitAt, Cond.instanceMethod yX7_fitAt, Cond.selects RX7 yX7_fitAt yX7_fitAt, Cond.code yX7_fitAt cX7_fitAt 4 (some .int), Cond.fieldLink RX7 7 "WrongClocksModel" "clock" "[I", Cond.methodLink RX7 49 yX7_has, Cond.static yX7_has, Cond.code yX7_has cX7_has 2 (some .boolean), Cond.methodLink RX7 163 yX7_canShow, Cond.instanceMethod yX7_canShow, Cond.selects RX7 yX7_canShow yX7_canShow, Cond.code yX7_canShow cX7_canShow 4 (some .boolean), Cond.methodLink RX7 153 yX7_hand, Cond.instanceMethod yX7_hand]
def wsX7_liars_r2 : List Cond := [Cond.selects RX7 yX7_hand yX7_hand, Cond.code yX7_hand cX7_hand 5 (some .int), Cond.methodLink RX7 160 yX7_isBetween, Cond.static yX7_isBetween, Cond.code yX7_isBetween cX7_isBetween 5 (some .boolean), Cond.methodLink RX7 157 yX7_down, Cond.static yX7_down, Cond.code yX7_down cX7_down 2 (some .int), Cond.methodLink RX7 146 yX7_rest, Cond.static yX7_rest, Cond.code yX7_rest cX7_rest 3 (some .int), Cond.methodLink RX7 173 yX7_bits, Cond.static yX7_bits, Cond.code yX7_bits cX7_bits 3 (some .int)]
def wsX7_liars : List Cond := .code yX7_liars cX7_liars 6 (some .int) :: ((wsX7_liars_r1 ++ wsX7_liars_r2) ++ wsX70)
def wsX7_isExact : List Cond := .code yX7_isExact cX7_isExact 2 (some .boolean) :: ([.fieldLink RX7 7 "WrongClocksModel" "clock" "[I", .methodLink RX7 143 yX7_isClock, .instanceMethod yX7_isClock, .selects RX7 yX7_isClock yX7_isClock, .initialized RX7, .code yX7_isClock cX7_isClock 2 (some .boolean), .fieldLink RX7 45 "WrongClocksModel" "told" "I", .methodLink RX7 41 yX7_in, .static yX7_in, .code yX7_in cX7_in 3 (some .boolean), .methodLink RX7 49 yX7_has, .static yX7_has, .code yX7_has cX7_has 2 (some .boolean)] ++ wsX70)
def wsX7_next_r1 : List Cond := [Cond.fieldLink RX7 136 "WrongClocksModel" "isRead1" "I", Cond.fieldLink RX7 25 "WrongClocksModel" "shown" "[I", Cond.fieldLink RX7 22 "WrongClocksModel" "fit" "[I", Cond.fieldLink RX7 7 "WrongClocksModel" "clock" "[I", Cond.methodLink RX7 41 yX7_in, Cond.static yX7_in, Cond.initialized RX7, Cond.code yX7_in cX7_in 3 (some .boolean), Cond.methodLink RX7 170 yX7_layFits, Cond.instanceMethod yX7_layFits, Cond.selects RX7 yX7_layFits yX7_layFits, Cond.code yX7_layFits cX7_layFits 2 none, Cond.methodLink RX7 166 yX7_fitAt, Cond.instanceMethod yX7_fitAt, Cond.selects RX7 yX7_fitAt yX7_fitAt, Cond.code yX7_fitAt cX7_fitAt 4 (some .int), Cond.methodLink RX7 49 yX7_has, Cond.static yX7_has, Cond.code yX7_has cX7_has 2 (some .boolean), Cond.methodLink RX7 163 yX7_canShow, Cond.instanceMethod yX7_canShow, Cond.selects RX7 yX7_canShow yX7_canShow, Cond.code yX7_canShow cX7_canShow 4 (some .boolean), Cond.methodLink RX7 153 yX7_hand]
def wsX7_next_r2 : List Cond := [Cond.instanceMethod yX7_hand, Cond.selects RX7 yX7_hand yX7_hand, Cond.code yX7_hand cX7_hand 5 (some .int), Cond.methodLink RX7 160 yX7_isBetween, Cond.static yX7_isBetween, Cond.code yX7_isBetween cX7_isBetween 5 (some .boolean), Cond.methodLink RX7 157 yX7_down, Cond.static yX7_down, Cond.code yX7_down cX7_down 2 (some .int), Cond.methodLink RX7 146 yX7_rest, Cond.static yX7_rest, Cond.code yX7_rest cX7_rest 3 (some .int), Cond.methodLink RX7 176 yX7_isExact, Cond.instanceMethod yX7_isExact, Cond.selects RX7 yX7_isExact yX7_isExact, Cond.code yX7_isExact cX7_isExact 2 (some .boolean), Cond.methodLink RX7 143 yX7_isClock, Cond.instanceMethod yX7_isClock, Cond.selects RX7 yX7_isClock yX7_isClock, Cond.code yX7_isClock cX7_isClock 2 (some .boolean), Cond.fieldLink RX7 45 "WrongClocksModel" "told" "I"]
def wsX7_next : List Cond := .code yX7_next cX7_next 8 (some .int) :: ((wsX7_next_r1 ++ wsX7_next_r2) ++ wsX70)
def wsX7_note : List Cond := .code yX7_note cX7_note 4 (some .int) :: ([.fieldLink RX7 179 "WrongClocksModel" "noted" "I", .fieldLink RX7 13 "WrongClocksModel" "note" "[I", .methodLink RX7 143 yX7_isClock, .instanceMethod yX7_isClock, .selects RX7 yX7_isClock yX7_isClock, .initialized RX7, .code yX7_isClock cX7_isClock 2 (some .boolean), .fieldLink RX7 45 "WrongClocksModel" "told" "I", .methodLink RX7 41 yX7_in, .static yX7_in, .code yX7_in cX7_in 3 (some .boolean), .methodLink RX7 49 yX7_has, .static yX7_has, .code yX7_has cX7_has 2 (some .boolean), .methodLink RX7 150 yX7_isMinute, .static yX7_isMinute, .code yX7_isMinute cX7_isMinute 1 (some .boolean)] ++ wsX70)
def wsX7_burn : List Cond := .code yX7_burn cX7_burn 2 (some .int) :: ([.fieldLink RX7 179 "WrongClocksModel" "noted" "I"] ++ wsX70)
def wsX7_isNoted : List Cond := .code yX7_isNoted cX7_isNoted 10 (some .boolean) :: ([.fieldLink RX7 179 "WrongClocksModel" "noted" "I", .fieldLink RX7 13 "WrongClocksModel" "note" "[I", .fieldLink RX7 7 "WrongClocksModel" "clock" "[I", .constant RX7 182 (1036800), .constant RX7 183 (518400), .methodLink RX7 146 yX7_rest, .static yX7_rest, .initialized RX7, .code yX7_rest cX7_rest 3 (some .int)] ++ wsX70)
def wsX7_rates : List Cond := .code yX7_rates cX7_rates 7 (some .int) :: ([.methodLink RX7 143 yX7_isClock, .instanceMethod yX7_isClock, .selects RX7 yX7_isClock yX7_isClock, .initialized RX7, .code yX7_isClock cX7_isClock 2 (some .boolean), .fieldLink RX7 45 "WrongClocksModel" "told" "I", .methodLink RX7 41 yX7_in, .static yX7_in, .code yX7_in cX7_in 3 (some .boolean), .methodLink RX7 49 yX7_has, .static yX7_has, .code yX7_has cX7_has 2 (some .boolean), .methodLink RX7 184 yX7_isNoted, .instanceMethod yX7_isNoted, .selects RX7 yX7_isNoted yX7_isNoted, .code yX7_isNoted cX7_isNoted 10 (some .boolean), .fieldLink RX7 179 "WrongClocksModel" "noted" "I", .fieldLink RX7 13 "WrongClocksModel" "note" "[I", .fieldLink RX7 7 "WrongClocksModel" "clock" "[I", .constant RX7 182 (1036800), .constant RX7 183 (518400), .methodLink RX7 146 yX7_rest, .static yX7_rest, .code yX7_rest cX7_rest 3 (some .int)] ++ wsX70)
def wsX7_common : List Cond := .code yX7_common cX7_common 5 (some .int) :: ([])
def wsX7_isAgain : List Cond := .code yX7_isAgain cX7_isAgain 8 (some .boolean) :: ([.fieldLink RX7 7 "WrongClocksModel" "clock" "[I", .constant RX7 182 (1036800), .fieldLink RX7 190 "WrongClocksModel" "againStep" "I", .fieldLink RX7 193 "WrongClocksModel" "againAt" "I", .constantLong RX7 196 (1036800), .methodLink RX7 153 yX7_hand, .instanceMethod yX7_hand, .selects RX7 yX7_hand yX7_hand, .initialized RX7, .code yX7_hand cX7_hand 5 (some .int), .methodLink RX7 146 yX7_rest, .static yX7_rest, .code yX7_rest cX7_rest 3 (some .int), .methodLink RX7 187 yX7_common, .static yX7_common, .code yX7_common cX7_common 5 (some .int)] ++ wsX70)
def wsX7_isFirstAgain : List Cond := .code yX7_isFirstAgain cX7_isFirstAgain 17 (some .boolean) :: ([.fieldLink RX7 7 "WrongClocksModel" "clock" "[I", .constant RX7 182 (1036800), .fieldLink RX7 190 "WrongClocksModel" "againStep" "I", .fieldLink RX7 193 "WrongClocksModel" "againAt" "I", .methodLink RX7 153 yX7_hand, .instanceMethod yX7_hand, .selects RX7 yX7_hand yX7_hand, .initialized RX7, .code yX7_hand cX7_hand 5 (some .int), .methodLink RX7 146 yX7_rest, .static yX7_rest, .code yX7_rest cX7_rest 3 (some .int), .methodLink RX7 187 yX7_common, .static yX7_common, .code yX7_common cX7_common 5 (some .int)] ++ wsX70)
def wsX7_again_r1 : List Cond := [Cond.constant RX7 198 (9999999), Cond.fieldLink RX7 7 "WrongClocksModel" "clock" "[I", Cond.fieldLink RX7 193 "WrongClocksModel" "againAt" "I", Cond.methodLink RX7 41 yX7_in, Cond.static yX7_in, Cond.initialized RX7, Cond.code yX7_in cX7_in 3 (some .boolean), Cond.methodLink RX7 173 yX7_bits, Cond.static yX7_bits, Cond.code yX7_bits cX7_bits 3 (some .int), Cond.methodLink RX7 49 yX7_has, Cond.static yX7_has, Cond.code yX7_has cX7_has 2 (some .boolean), Cond.methodLink RX7 176 yX7_isExact, Cond.instanceMethod yX7_isExact, Cond.selects RX7 yX7_isExact yX7_isExact, Cond.code yX7_isExact cX7_isExact 2 (some .boolean), Cond.methodLink RX7 143 yX7_isClock, Cond.instanceMethod yX7_isClock, Cond.selects RX7 yX7_isClock yX7_isClock, Cond.code yX7_isClock cX7_isClock 2 (some .boolean), Cond.fieldLink RX7 45 "WrongClocksModel" "told" "I", Cond.methodLink RX7 199 yX7_isFirstAgain, Cond.instanceMethod yX7_isFirstAgain]
def wsX7_again_r2 : List Cond := [Cond.selects RX7 yX7_isFirstAgain yX7_isFirstAgain, Cond.code yX7_isFirstAgain cX7_isFirstAgain 17 (some .boolean), Cond.constant RX7 182 (1036800), Cond.fieldLink RX7 190 "WrongClocksModel" "againStep" "I", Cond.methodLink RX7 153 yX7_hand, Cond.instanceMethod yX7_hand, Cond.selects RX7 yX7_hand yX7_hand, Cond.code yX7_hand cX7_hand 5 (some .int), Cond.methodLink RX7 146 yX7_rest, Cond.static yX7_rest, Cond.code yX7_rest cX7_rest 3 (some .int), Cond.methodLink RX7 187 yX7_common, Cond.static yX7_common, Cond.code yX7_common cX7_common 5 (some .int), Cond.methodLink RX7 202 yX7_isAgain, Cond.instanceMethod yX7_isAgain, Cond.selects RX7 yX7_isAgain yX7_isAgain, Cond.code yX7_isAgain cX7_isAgain 8 (some .boolean), Cond.constantLong RX7 196 (1036800)]
def wsX7_again : List Cond := .code yX7_again cX7_again 6 (some .int) :: ((wsX7_again_r1 ++ wsX7_again_r2) ++ wsX70)
def wsX7_stopped_r1 : List Cond := [Cond.fieldLink RX7 7 "WrongClocksModel" "clock" "[I", Cond.methodLink RX7 143 yX7_isClock, Cond.instanceMethod yX7_isClock, Cond.selects RX7 yX7_isClock yX7_isClock, Cond.initialized RX7, Cond.code yX7_isClock cX7_isClock 2 (some .boolean), Cond.fieldLink RX7 45 "WrongClocksModel" "told" "I", Cond.methodLink RX7 41 yX7_in, Cond.static yX7_in, Cond.code yX7_in cX7_in 3 (some .boolean), Cond.methodLink RX7 49 yX7_has, Cond.static yX7_has, Cond.code yX7_has cX7_has 2 (some .boolean), Cond.methodLink RX7 163 yX7_canShow, Cond.instanceMethod yX7_canShow, Cond.selects RX7 yX7_canShow yX7_canShow, Cond.code yX7_canShow cX7_canShow 4 (some .boolean), Cond.methodLink RX7 153 yX7_hand, Cond.instanceMethod yX7_hand, Cond.selects RX7 yX7_hand yX7_hand, Cond.code yX7_hand cX7_hand 5 (some .int), Cond.methodLink RX7 160 yX7_isBetween, Cond.static yX7_isBetween, Cond.code yX7_isBetween cX7_isBetween 5 (some .boolean)]
def wsX7_stopped_r2 : List Cond := [Cond.methodLink RX7 157 yX7_down, Cond.static yX7_down, Cond.code yX7_down cX7_down 2 (some .int), Cond.methodLink RX7 146 yX7_rest, Cond.static yX7_rest, Cond.code yX7_rest cX7_rest 3 (some .int)]
def wsX7_stopped : List Cond := .code yX7_stopped cX7_stopped 8 (some .int) :: ((wsX7_stopped_r1 ++ wsX7_stopped_r2) ++ wsX70)
def wsX7_setBy_r1 : List Cond := [Cond.fieldLink RX7 7 "WrongClocksModel" "clock" "[I", Cond.fieldLink RX7 136 "WrongClocksModel" "isRead1" "I", Cond.constant RX7 182 (1036800), Cond.constant RX7 205 (86400), Cond.methodLink RX7 143 yX7_isClock, Cond.instanceMethod yX7_isClock, Cond.selects RX7 yX7_isClock yX7_isClock, Cond.initialized RX7, Cond.code yX7_isClock cX7_isClock 2 (some .boolean), Cond.fieldLink RX7 45 "WrongClocksModel" "told" "I", Cond.methodLink RX7 41 yX7_in, Cond.static yX7_in, Cond.code yX7_in cX7_in 3 (some .boolean), Cond.methodLink RX7 49 yX7_has, Cond.static yX7_has, Cond.code yX7_has cX7_has 2 (some .boolean), Cond.methodLink RX7 150 yX7_isMinute, Cond.static yX7_isMinute, Cond.code yX7_isMinute cX7_isMinute 1 (some .boolean), Cond.methodLink RX7 176 yX7_isExact, Cond.instanceMethod yX7_isExact, Cond.selects RX7 yX7_isExact yX7_isExact, Cond.code yX7_isExact cX7_isExact 2 (some .boolean), Cond.methodLink RX7 153 yX7_hand]
def wsX7_setBy_r2 : List Cond := [Cond.instanceMethod yX7_hand, Cond.selects RX7 yX7_hand yX7_hand, Cond.code yX7_hand cX7_hand 5 (some .int), Cond.methodLink RX7 146 yX7_rest, Cond.static yX7_rest, Cond.code yX7_rest cX7_rest 3 (some .int), Cond.methodLink RX7 160 yX7_isBetween, Cond.static yX7_isBetween, Cond.code yX7_isBetween cX7_isBetween 5 (some .boolean), Cond.methodLink RX7 157 yX7_down, Cond.static yX7_down, Cond.code yX7_down cX7_down 2 (some .int)]
def wsX7_setBy : List Cond := .code yX7_setBy cX7_setBy 9 (some .int) :: ((wsX7_setBy_r1 ++ wsX7_setBy_r2) ++ wsX70)
def wsX7_toWhole : List Cond := .code yX7_toWhole cX7_toWhole 4 (some .int) :: ([.fieldLink RX7 7 "WrongClocksModel" "clock" "[I", .methodLink RX7 153 yX7_hand, .instanceMethod yX7_hand, .selects RX7 yX7_hand yX7_hand, .initialized RX7, .code yX7_hand cX7_hand 5 (some .int), .methodLink RX7 146 yX7_rest, .static yX7_rest, .code yX7_rest cX7_rest 3 (some .int)] ++ wsX70)
def wsX7_egg_r1 : List Cond := [Cond.constantLong RX7 70 (-2), Cond.constantLong RX7 84 (-3), Cond.fieldLink RX7 7 "WrongClocksModel" "clock" "[I", Cond.constantLong RX7 80 (-4), Cond.constantLong RX7 82 (-1), Cond.constantLong RX7 209 (1440), Cond.methodLink RX7 143 yX7_isClock, Cond.instanceMethod yX7_isClock, Cond.selects RX7 yX7_isClock yX7_isClock, Cond.initialized RX7, Cond.code yX7_isClock cX7_isClock 2 (some .boolean), Cond.fieldLink RX7 45 "WrongClocksModel" "told" "I", Cond.methodLink RX7 41 yX7_in, Cond.static yX7_in, Cond.code yX7_in cX7_in 3 (some .boolean), Cond.methodLink RX7 49 yX7_has, Cond.static yX7_has, Cond.code yX7_has cX7_has 2 (some .boolean), Cond.methodLink RX7 150 yX7_isMinute, Cond.static yX7_isMinute, Cond.code yX7_isMinute cX7_isMinute 1 (some .boolean), Cond.methodLink RX7 176 yX7_isExact, Cond.instanceMethod yX7_isExact, Cond.selects RX7 yX7_isExact yX7_isExact]
def wsX7_egg_r2 : List Cond := [Cond.code yX7_isExact cX7_isExact 2 (some .boolean), Cond.methodLink RX7 206 yX7_toWhole, Cond.instanceMethod yX7_toWhole, Cond.selects RX7 yX7_toWhole yX7_toWhole, Cond.code yX7_toWhole cX7_toWhole 4 (some .int), Cond.methodLink RX7 153 yX7_hand, Cond.instanceMethod yX7_hand, Cond.selects RX7 yX7_hand yX7_hand, Cond.code yX7_hand cX7_hand 5 (some .int), Cond.methodLink RX7 146 yX7_rest, Cond.static yX7_rest, Cond.code yX7_rest cX7_rest 3 (some .int)]
def wsX7_egg : List Cond := .code yX7_egg cX7_egg 20 (some .long) :: ((wsX7_egg_r1 ++ wsX7_egg_r2) ++ wsX70)
def wsX7_greatest : List Cond := .code yX7_greatest cX7_greatest 5 (some .int) :: ([.fieldLink RX7 211 "WrongClocksModel" "orderMany" "I", .fieldLink RX7 7 "WrongClocksModel" "clock" "[I", .fieldLink RX7 35 "WrongClocksModel" "row" "[I"] ++ wsX70)
def wsX7_take : List Cond := .code yX7_take cX7_take 2 none :: ([.fieldLink RX7 218 "WrongClocksModel" "orderLeast" "I", .fieldLink RX7 211 "WrongClocksModel" "orderMany" "I", .fieldLink RX7 38 "WrongClocksModel" "best" "[I", .fieldLink RX7 35 "WrongClocksModel" "row" "[I", .methodLink RX7 214 yX7_greatest, .instanceMethod yX7_greatest, .selects RX7 yX7_greatest yX7_greatest, .initialized RX7, .code yX7_greatest cX7_greatest 5 (some .int), .fieldLink RX7 7 "WrongClocksModel" "clock" "[I"] ++ wsX70)
def wsX7_nextRow : List Cond := .code yX7_nextRow cX7_nextRow 6 (some .boolean) :: ([.fieldLink RX7 211 "WrongClocksModel" "orderMany" "I", .fieldLink RX7 35 "WrongClocksModel" "row" "[I"] ++ wsX70)
def wsX7_order_r1 : List Cond := [Cond.fieldLink RX7 7 "WrongClocksModel" "clock" "[I", Cond.fieldLink RX7 35 "WrongClocksModel" "row" "[I", Cond.fieldLink RX7 211 "WrongClocksModel" "orderMany" "I", Cond.fieldLink RX7 218 "WrongClocksModel" "orderLeast" "I", Cond.fieldLink RX7 38 "WrongClocksModel" "best" "[I", Cond.methodLink RX7 176 yX7_isExact, Cond.instanceMethod yX7_isExact, Cond.selects RX7 yX7_isExact yX7_isExact, Cond.initialized RX7, Cond.code yX7_isExact cX7_isExact 2 (some .boolean), Cond.methodLink RX7 143 yX7_isClock, Cond.instanceMethod yX7_isClock, Cond.selects RX7 yX7_isClock yX7_isClock, Cond.code yX7_isClock cX7_isClock 2 (some .boolean), Cond.fieldLink RX7 45 "WrongClocksModel" "told" "I", Cond.methodLink RX7 41 yX7_in, Cond.static yX7_in, Cond.code yX7_in cX7_in 3 (some .boolean), Cond.methodLink RX7 49 yX7_has, Cond.static yX7_has, Cond.code yX7_has cX7_has 2 (some .boolean), Cond.methodLink RX7 221 yX7_take, Cond.instanceMethod yX7_take, Cond.selects RX7 yX7_take yX7_take]
def wsX7_order_r2 : List Cond := [Cond.code yX7_take cX7_take 2 none, Cond.methodLink RX7 214 yX7_greatest, Cond.instanceMethod yX7_greatest, Cond.selects RX7 yX7_greatest yX7_greatest, Cond.code yX7_greatest cX7_greatest 5 (some .int), Cond.methodLink RX7 224 yX7_nextRow, Cond.instanceMethod yX7_nextRow, Cond.selects RX7 yX7_nextRow yX7_nextRow, Cond.code yX7_nextRow cX7_nextRow 6 (some .boolean)]
def wsX7_order : List Cond := .code yX7_order cX7_order 4 (some .int) :: ((wsX7_order_r1 ++ wsX7_order_r2) ++ wsX70)
def wsX7_keep : List Cond := .code yX7_keep cX7_keep 4 (some .int) :: ([.fieldLink RX7 28 "WrongClocksModel" "image" "[I", .fieldLink RX7 45 "WrongClocksModel" "told" "I", .fieldLink RX7 136 "WrongClocksModel" "isRead1" "I", .fieldLink RX7 179 "WrongClocksModel" "noted" "I", .fieldLink RX7 7 "WrongClocksModel" "clock" "[I", .fieldLink RX7 13 "WrongClocksModel" "note" "[I", .fieldLink RX7 31 "WrongClocksModel" "isKept" "[Z", .methodLink RX7 41 yX7_in, .static yX7_in, .initialized RX7, .code yX7_in cX7_in 3 (some .boolean), .methodLink RX7 173 yX7_bits, .static yX7_bits, .code yX7_bits cX7_bits 3 (some .int)] ++ wsX70)
def wsX7_back : List Cond := .code yX7_back cX7_back 4 (some .int) :: ([.fieldLink RX7 31 "WrongClocksModel" "isKept" "[Z", .fieldLink RX7 28 "WrongClocksModel" "image" "[I", .fieldLink RX7 45 "WrongClocksModel" "told" "I", .fieldLink RX7 136 "WrongClocksModel" "isRead1" "I", .fieldLink RX7 179 "WrongClocksModel" "noted" "I", .fieldLink RX7 7 "WrongClocksModel" "clock" "[I", .fieldLink RX7 13 "WrongClocksModel" "note" "[I", .methodLink RX7 41 yX7_in, .static yX7_in, .initialized RX7, .code yX7_in cX7_in 3 (some .boolean), .methodLink RX7 173 yX7_bits, .static yX7_bits, .code yX7_bits cX7_bits 3 (some .int)] ++ wsX70)
def wsX7_count : List Cond := .code yX7_count cX7_count 2 (some .int) :: ([.fieldLink RX7 45 "WrongClocksModel" "told" "I", .fieldLink RX7 136 "WrongClocksModel" "isRead1" "I", .fieldLink RX7 179 "WrongClocksModel" "noted" "I", .fieldLink RX7 53 "WrongClocksModel" "bytes" "I"] ++ wsX70)
def wsJ9_abs_0f7a4 : List Cond := .code yJ9_abs_0f7a4 cJ9_abs_0f7a4 1 (some .int) :: ([])
def wsJ9_abs_067f4 : List Cond := .code yJ9_abs_067f4 cJ9_abs_067f4 2 (some .long) :: ([])
def wsJ9_max_7cf53 : List Cond := .code yJ9_max_7cf53 cJ9_max_7cf53 2 (some .int) :: ([])
def wsJ9_max_f86c9 : List Cond := .code yJ9_max_f86c9 cJ9_max_f86c9 4 (some .long) :: ([])
def wsJ9_min_7cf53 : List Cond := .code yJ9_min_7cf53 cJ9_min_7cf53 2 (some .int) :: ([])
def wsL_law_r1 : List Cond := [Cond.classLink RL 7 RX6, Cond.instantiable RX6 9, Cond.initialized RX6, Cond.classLink RL 10 RX7, Cond.instantiable RX7 26, Cond.initialized RX7, Cond.constantLong RL 13 (4294967295), Cond.methodLink RL 9 yX6_init, Cond.instanceMethod yX6_init, Cond.code yX6_init cX6_init 2 none, Cond.methodLink RX6 3 objectInit, Cond.instanceMethod objectInit, Cond.code objectInit ⟨#[0xb1]⟩ 1 none, Cond.classLink RX6 9 RX5, Cond.instantiable RX5 6, Cond.initialized RX5, Cond.fieldLink RX6 12 "WrongClocks" "text" "LWrongClocks$Text;", Cond.classLink RX6 16 RX1, Cond.instantiable RX1 3, Cond.initialized RX1, Cond.fieldLink RX6 19 "WrongClocks" "present" "LWrongClocks$House;", Cond.fieldLink RX6 23 "WrongClocks" "kept" "[LWrongClocks$House;", Cond.classLink RX6 27 RX4, Cond.instantiable RX4 4]
def wsL_law_r2 : List Cond := [Cond.initialized RX4, Cond.fieldLink RX6 30 "WrongClocks" "tally" "LWrongClocks$Tally;", Cond.classLink RX6 34 RX0, Cond.instantiable RX0 6, Cond.initialized RX0, Cond.fieldLink RX6 37 "WrongClocks" "trial" "LWrongClocks$Clock;", Cond.classLink RX6 41 RX3, Cond.instantiable RX3 4, Cond.initialized RX3, Cond.fieldLink RX6 44 "WrongClocks" "queue" "LWrongClocks$Queue;", Cond.arrayClass .int, Cond.fieldLink RX6 48 "WrongClocks" "misfits" "[I", Cond.fieldLink RX6 52 "WrongClocks" "sifted" "Z", Cond.fieldLink RX6 56 "WrongClocks" "shown" "[I", Cond.instanceMethod yX5_init, Cond.code yX5_init cX5_init 1 none, Cond.methodLink RX5 3 objectInit, Cond.fieldLink RX5 9 "WrongClocks$Text" "bytes" "[I", Cond.fieldLink RX5 15 "WrongClocks$Text" "length" "I", Cond.fieldLink RX5 19 "WrongClocks$Text" "rows" "[I", Cond.fieldLink RX5 22 "WrongClocks$Text" "lineCount" "I", Cond.fieldLink RX5 25 "WrongClocks$Text" "start" "I", Cond.fieldLink RX5 28 "WrongClocks$Text" "end" "I", Cond.methodLink RX6 18 yX1_init]
def wsL_law_r3 : List Cond := [Cond.instanceMethod yX1_init, Cond.code yX1_init cX1_init 2 none, Cond.methodLink RX1 3 objectInit, Cond.fieldLink RX1 9 "WrongClocks$House" "filled" "Z", Cond.classLink RX1 15 RX0, Cond.fieldLink RX1 17 "WrongClocks$House" "clocks" "[LWrongClocks$Clock;", Cond.classLink RX1 21 RX2, Cond.instantiable RX2 4, Cond.initialized RX2, Cond.fieldLink RX1 24 "WrongClocks$House" "notes" "LWrongClocks$Notes;", Cond.instanceMethod yX2_init, Cond.code yX2_init cX2_init 1 none, Cond.methodLink RX2 3 objectInit, Cond.fieldLink RX2 9 "WrongClocks$Notes" "many" "I", Cond.fieldLink RX2 15 "WrongClocks$Notes" "clocks" "[I", Cond.fieldLink RX2 19 "WrongClocks$Notes" "minutes" "[I", Cond.fieldLink RX2 22 "WrongClocks$Notes" "dials" "[I", Cond.instanceMethod yX0_init, Cond.code yX0_init cX0_init 1 none, Cond.methodLink RX0 3 objectInit, Cond.fieldLink RX0 9 "WrongClocks$Clock" "kind" "I", Cond.fieldLink RX0 15 "WrongClocks$Clock" "set" "I", Cond.fieldLink RX0 18 "WrongClocks$Clock" "dial" "I", Cond.fieldLink RX0 21 "WrongClocks$Clock" "low" "I"]
def wsL_law_r4 : List Cond := [Cond.fieldLink RX0 24 "WrongClocks$Clock" "high" "I", Cond.fieldLink RX0 27 "WrongClocks$Clock" "read" "I", Cond.instanceMethod yX4_init, Cond.code yX4_init cX4_init 1 none, Cond.methodLink RX4 3 objectInit, Cond.fieldLink RX4 9 "WrongClocks$Tally" "many" "I", Cond.fieldLink RX4 15 "WrongClocks$Tally" "first" "I", Cond.fieldLink RX4 18 "WrongClocks$Tally" "last" "I", Cond.fieldLink RX4 21 "WrongClocks$Tally" "runs" "I", Cond.instanceMethod yX3_init, Cond.code yX3_init cX3_init 1 none, Cond.methodLink RX3 3 objectInit, Cond.fieldLink RX3 9 "WrongClocks$Queue" "many" "I", Cond.fieldLink RX3 15 "WrongClocks$Queue" "clocks" "[I", Cond.fieldLink RX3 19 "WrongClocks$Queue" "rates" "[I", Cond.fieldLink RX3 22 "WrongClocks$Queue" "least" "[I", Cond.methodLink RL 12 yX7_init, Cond.instanceMethod yX7_init, Cond.code yX7_init cX7_init 1 none, Cond.methodLink RX7 1 objectInit, Cond.fieldLink RX7 7 "WrongClocksModel" "clock" "[I", Cond.fieldLink RX7 13 "WrongClocksModel" "note" "[I", Cond.fieldLink RX7 16 "WrongClocksModel" "text" "[I", Cond.fieldLink RX7 19 "WrongClocksModel" "read" "[I"]
def wsL_law_r5 : List Cond := [Cond.fieldLink RX7 22 "WrongClocksModel" "fit" "[I", Cond.fieldLink RX7 25 "WrongClocksModel" "shown" "[I", Cond.fieldLink RX7 28 "WrongClocksModel" "image" "[I", Cond.arrayClass .boolean, Cond.fieldLink RX7 31 "WrongClocksModel" "isKept" "[Z", Cond.fieldLink RX7 35 "WrongClocksModel" "row" "[I", Cond.fieldLink RX7 38 "WrongClocksModel" "best" "[I", Cond.methodLink RL 15 yX6_write, Cond.instanceMethod yX6_write, Cond.selects RX6 yX6_write yX6_write, Cond.code yX6_write cX6_write 5 (some .int), Cond.fieldLink RX6 59 "WrongClocks$Text" "length" "I", Cond.constantLong RX6 63 (255), Cond.methodLink RX6 65 yX5_put, Cond.instanceMethod yX5_put, Cond.selects RX5 yX5_put yX5_put, Cond.code yX5_put cX5_put 2 none, Cond.methodLink RL 19 yX7_write, Cond.instanceMethod yX7_write, Cond.selects RX7 yX7_write yX7_write, Cond.code yX7_write cX7_write 5 (some .int), Cond.fieldLink RX7 53 "WrongClocksModel" "bytes" "I", Cond.constantLong RX7 56 (255), Cond.methodLink RX7 41 yX7_in]
def wsL_law_r6 : List Cond := [Cond.static yX7_in, Cond.code yX7_in cX7_in 3 (some .boolean), Cond.methodLink RL 20 yX6_erase, Cond.instanceMethod yX6_erase, Cond.selects RX6 yX6_erase yX6_erase, Cond.code yX6_erase cX6_erase 2 (some .int), Cond.methodLink RL 24 yX7_erase, Cond.instanceMethod yX7_erase, Cond.selects RX7 yX7_erase yX7_erase, Cond.code yX7_erase cX7_erase 2 (some .int), Cond.methodLink RL 25 yX6_fault, Cond.instanceMethod yX6_fault, Cond.selects RX6 yX6_fault yX6_fault, Cond.code yX6_fault cX6_fault 1 (some .int), Cond.methodLink RX6 69 yX1_toldBits, Cond.instanceMethod yX1_toldBits, Cond.selects RX1 yX1_toldBits yX1_toldBits, Cond.code yX1_toldBits cX1_toldBits 3 (some .int), Cond.fieldLink RX1 40 "WrongClocks$Clock" "kind" "I", Cond.methodLink RX6 73 yX5_findFault, Cond.instanceMethod yX5_findFault, Cond.selects RX5 yX5_findFault yX5_findFault, Cond.code yX5_findFault cX5_findFault 4 (some .int), Cond.methodLink RX5 35 yX5_takeLine]
def wsL_law_r7 : List Cond := [Cond.instanceMethod yX5_takeLine, Cond.selects RX5 yX5_takeLine yX5_takeLine, Cond.code yX5_takeLine cX5_takeLine 10 (some .boolean), Cond.methodLink RX5 42 yX5_takeToken, Cond.instanceMethod yX5_takeToken, Cond.selects RX5 yX5_takeToken yX5_takeToken, Cond.code yX5_takeToken cX5_takeToken 1 none, Cond.methodLink RX5 45 yX5_signAt, Cond.instanceMethod yX5_signAt, Cond.selects RX5 yX5_signAt yX5_signAt, Cond.code yX5_signAt cX5_signAt 2 (some .int), Cond.methodLink RX5 75 yX5_isLetter, Cond.static yX5_isLetter, Cond.code yX5_isLetter cX5_isLetter 1 (some .boolean), Cond.methodLink RX5 79 yX5_isDigit, Cond.static yX5_isDigit, Cond.code yX5_isDigit cX5_isDigit 1 (some .boolean), Cond.methodLink RX5 49 yX5_wordTaken, Cond.instanceMethod yX5_wordTaken, Cond.selects RX5 yX5_wordTaken yX5_wordTaken, Cond.code yX5_wordTaken cX5_wordTaken 2 (some .int), Cond.methodLink RX5 82 yX5_wordOf, Cond.static yX5_wordOf, Cond.code yX5_wordOf cX5_wordOf 1 (some (.object "java/lang/String"))]
def wsL_law_r8 : List Cond := [Cond.methodLink RX5 85 yX5_isTaken, Cond.instanceMethod yX5_isTaken, Cond.selects RX5 yX5_isTaken yX5_isTaken, Cond.code yX5_isTaken cX5_isTaken 3 (some .boolean), Cond.methodLink RX5 57 yJ0_length_8abf5, Cond.instanceMethod yJ0_length_8abf5, Cond.selects RJ0 yJ0_length_8abf5 yJ0_length_8abf5, Cond.initialized RJ0, Cond.code yJ0_length_8abf5 cJ0_length_8abf5 1 (some .int), Cond.fieldLink RJ0 9 "java/lang/String" "value" "[B", Cond.methodLink RJ0 335 yJ0_coder_7d493, Cond.instanceMethod yJ0_coder_7d493, Cond.selects RJ0 yJ0_coder_7d493 yJ0_coder_7d493, Cond.code yJ0_coder_7d493 cJ0_coder_7d493 1 (some .byte), Cond.fieldLink RJ0 38 "java/lang/String" "COMPACT_STRINGS" "Z", Cond.fieldLink RJ0 15 "java/lang/String" "coder" "B", Cond.methodLink RX5 61 yJ0_charAt_5068e, Cond.instanceMethod yJ0_charAt_5068e, Cond.selects RJ0 yJ0_charAt_5068e yJ0_charAt_5068e, Cond.code yJ0_charAt_5068e cJ0_charAt_5068e 2 (some .char), Cond.methodLink RJ0 492 yJ0_isLatin1_aae02, Cond.instanceMethod yJ0_isLatin1_aae02, Cond.selects RJ0 yJ0_isLatin1_aae02 yJ0_isLatin1_aae02, Cond.code yJ0_isLatin1_aae02 cJ0_isLatin1_aae02 1 (some .boolean)]
def wsL_law_r9 : List Cond := [Cond.methodLink RJ0 495 yJ1_charAt_3b067, Cond.static yJ1_charAt_3b067, Cond.initialized RJ1, Cond.code yJ1_charAt_3b067 cJ1_charAt_3b067 2 (some .char), Cond.methodLink RJ1 9 yJ0_checkIndex_df160, Cond.static yJ0_checkIndex_df160, Cond.code yJ0_checkIndex_df160 cJ0_checkIndex_df160 2 none, Cond.fieldLink RJ0 1053 "jdk/internal/util/Preconditions" "SIOOBE_FORMATTER" "Ljava/util/function/BiFunction;", Cond.methodLink RJ0 1059 yJ3_checkIndex_8e157, Cond.static yJ3_checkIndex_8e157, Cond.initialized RJ3, Cond.code yJ3_checkIndex_8e157 cJ3_checkIndex_8e157 3 (some .int), Cond.methodLink RJ0 498 yJ2_charAt_3b067, Cond.static yJ2_charAt_3b067, Cond.initialized RJ2, Cond.code yJ2_charAt_3b067 cJ2_charAt_3b067 2 (some .char), Cond.methodLink RJ2 67 yJ2_checkIndex_2214a, Cond.static yJ2_checkIndex_2214a, Cond.code yJ2_checkIndex_2214a cJ2_checkIndex_2214a 2 none, Cond.methodLink RJ2 48 yJ2_length_9d52b, Cond.static yJ2_length_9d52b, Cond.code yJ2_length_9d52b cJ2_length_9d52b 1 (some .int), Cond.methodLink RJ2 414 yJ0_checkIndex_df160, Cond.methodLink RJ2 71 yJ2_getChar_3b067]
def wsL_law_r10 : List Cond := [Cond.static yJ2_getChar_3b067, Cond.code yJ2_getChar_3b067 cJ2_getChar_3b067 2 (some .char), Cond.fieldLink RJ2 44 "java/lang/StringUTF16" "$assertionsDisabled" "Z", Cond.fieldLink RJ2 59 "java/lang/StringUTF16" "HI_BYTE_SHIFT" "I", Cond.fieldLink RJ2 63 "java/lang/StringUTF16" "LO_BYTE_SHIFT" "I", Cond.static yX6_isBelow, Cond.code yX6_isBelow cX6_isBelow 2 (some .boolean), Cond.methodLink RX5 53 yX5_numbersOf, Cond.static yX5_numbersOf, Cond.code yX5_numbersOf cX5_numbersOf 1 (some (.object "java/lang/String")), Cond.methodLink RX5 65 yX5_numberTaken, Cond.instanceMethod yX5_numberTaken, Cond.selects RX5 yX5_numberTaken yX5_numberTaken, Cond.code yX5_numberTaken cX5_numberTaken 3 (some .int), Cond.methodLink RX5 68 yX5_mostOf, Cond.static yX5_mostOf, Cond.code yX5_mostOf cX5_mostOf 1 (some .int), Cond.methodLink RX5 38 yX5_knownBehind, Cond.instanceMethod yX5_knownBehind, Cond.selects RX5 yX5_knownBehind yX5_knownBehind, Cond.code yX5_knownBehind cX5_knownBehind 4 (some .int), Cond.methodLink RX5 72 yX5_number, Cond.instanceMethod yX5_number, Cond.selects RX5 yX5_number yX5_number]
def wsL_law_r11 : List Cond := [Cond.code yX5_number cX5_number 3 (some .int), Cond.methodLink RL 28 yX7_fault, Cond.instanceMethod yX7_fault, Cond.selects RX7 yX7_fault yX7_fault, Cond.code yX7_fault cX7_fault 1 (some .int), Cond.fieldLink RX7 86 "WrongClocksModel" "faultAt" "I", Cond.methodLink RX7 133 yX7_isText, Cond.instanceMethod yX7_isText, Cond.selects RX7 yX7_isText yX7_isText, Cond.code yX7_isText cX7_isText 2 (some .boolean), Cond.fieldLink RX7 58 "WrongClocksModel" "position" "I", Cond.fieldLink RX7 127 "WrongClocksModel" "readMany" "I", Cond.fieldLink RX7 45 "WrongClocksModel" "told" "I", Cond.fieldLink RX7 99 "WrongClocksModel" "readTold" "I", Cond.fieldLink RX7 72 "WrongClocksModel" "token" "J", Cond.constantLong RX7 84 (-3), Cond.constantLong RX7 70 (-2), Cond.methodLink RX7 130 yX7_isLine, Cond.instanceMethod yX7_isLine, Cond.selects RX7 yX7_isLine yX7_isLine, Cond.code yX7_isLine cX7_isLine 2 (some .boolean), Cond.constantLong RX7 102 (4022278), Cond.constantLong RX7 104 (40187), Cond.constantLong RX7 106 (7656265777)]
def wsL_law_r12 : List Cond := [Cond.constantLong RX7 108 (149099), Cond.constantLong RX7 110 (10634), Cond.constantLong RX7 112 (309125191), Cond.methodLink RX7 89 yX7_nextToken, Cond.instanceMethod yX7_nextToken, Cond.selects RX7 yX7_nextToken yX7_nextToken, Cond.code yX7_nextToken cX7_nextToken 1 none, Cond.fieldLink RX7 61 "WrongClocksModel" "tokenAt" "I", Cond.fieldLink RX7 64 "WrongClocksModel" "digits" "I", Cond.fieldLink RX7 67 "WrongClocksModel" "number" "I", Cond.constantLong RX7 76 (27), Cond.constantLong RX7 78 (96), Cond.constantLong RX7 80 (-4), Cond.constantLong RX7 82 (-1), Cond.methodLink RX7 114 yX7_isGoing, Cond.instanceMethod yX7_isGoing, Cond.selects RX7 yX7_isGoing yX7_isGoing, Cond.code yX7_isGoing cX7_isGoing 3 (some .boolean), Cond.methodLink RX7 96 yX7_isNumber, Cond.instanceMethod yX7_isNumber, Cond.selects RX7 yX7_isNumber yX7_isNumber, Cond.code yX7_isNumber cX7_isNumber 4 (some .boolean), Cond.methodLink RX7 92 yX7_fails, Cond.instanceMethod yX7_fails]
def wsL_law_r13 : List Cond := [Cond.selects RX7 yX7_fails yX7_fails, Cond.code yX7_fails cX7_fails 1 (some .boolean), Cond.methodLink RX7 118 yX7_isStopped, Cond.instanceMethod yX7_isStopped, Cond.selects RX7 yX7_isStopped yX7_isStopped, Cond.code yX7_isStopped cX7_isStopped 3 (some .boolean), Cond.methodLink RX7 121 yX7_isGone, Cond.instanceMethod yX7_isGone, Cond.selects RX7 yX7_isGone yX7_isGone, Cond.code yX7_isGone cX7_isGone 3 (some .boolean), Cond.methodLink RX7 124 yX7_isNow, Cond.instanceMethod yX7_isNow, Cond.selects RX7 yX7_isNow yX7_isNow, Cond.code yX7_isNow cX7_isNow 2 (some .boolean), Cond.methodLink RX7 49 yX7_has, Cond.static yX7_has, Cond.code yX7_has cX7_has 2 (some .boolean), Cond.methodLink RL 29 yX6_house, Cond.instanceMethod yX6_house, Cond.selects RX6 yX6_house yX6_house, Cond.code yX6_house cX6_house 2 (some .int), Cond.fieldLink RX6 77 "WrongClocks$Text" "lineCount" "I", Cond.methodLink RX6 80 yX1_heed, Cond.instanceMethod yX1_heed]
def wsL_law_r14 : List Cond := [Cond.selects RX1 yX1_heed yX1_heed, Cond.code yX1_heed cX1_heed 8 none, Cond.fieldLink RX1 44 "WrongClocks$Clock" "read" "I", Cond.methodLink RX1 50 yX5_number, Cond.methodLink RX1 56 yX1_readNone, Cond.instanceMethod yX1_readNone, Cond.selects RX1 yX1_readNone yX1_readNone, Cond.code yX1_readNone cX1_readNone 2 none, Cond.methodLink RX1 59 yX0_tell, Cond.instanceMethod yX0_tell, Cond.selects RX0 yX0_tell yX0_tell, Cond.code yX0_tell cX0_tell 6 none, Cond.methodLink RL 32 yX7_house, Cond.instanceMethod yX7_house, Cond.selects RX7 yX7_house yX7_house, Cond.code yX7_house cX7_house 2 (some .int), Cond.methodLink RX7 139 yX7_doLine, Cond.instanceMethod yX7_doLine, Cond.selects RX7 yX7_doLine yX7_doLine, Cond.code yX7_doLine cX7_doLine 3 none, Cond.fieldLink RX7 136 "WrongClocksModel" "isRead1" "I", Cond.methodLink RL 33 yX6_clock, Cond.instanceMethod yX6_clock, Cond.selects RX6 yX6_clock yX6_clock]
def wsL_law_r15 : List Cond := [Cond.code yX6_clock cX6_clock 5 (some .int), Cond.fieldLink RX6 88 "WrongClocks$Clock" "kind" "I", Cond.fieldLink RX6 91 "WrongClocks$Clock" "set" "I", Cond.fieldLink RX6 94 "WrongClocks$Clock" "dial" "I", Cond.fieldLink RX6 97 "WrongClocks$Clock" "low" "I", Cond.fieldLink RX6 100 "WrongClocks$Clock" "high" "I", Cond.fieldLink RX6 103 "WrongClocks$Clock" "read" "I", Cond.methodLink RX6 84 yX1_toldClock, Cond.instanceMethod yX1_toldClock, Cond.selects RX1 yX1_toldClock yX1_toldClock, Cond.code yX1_toldClock cX1_toldClock 2 (some (.object "WrongClocks$Clock")), Cond.methodLink RL 37 yX7_clock, Cond.instanceMethod yX7_clock, Cond.selects RX7 yX7_clock yX7_clock, Cond.code yX7_clock cX7_clock 4 (some .int), Cond.methodLink RX7 143 yX7_isClock, Cond.instanceMethod yX7_isClock, Cond.selects RX7 yX7_isClock yX7_isClock, Cond.code yX7_isClock cX7_isClock 2 (some .boolean), Cond.methodLink RL 38 yX6_shows, Cond.instanceMethod yX6_shows, Cond.selects RX6 yX6_shows yX6_shows, Cond.code yX6_shows cX6_shows 5 (some .int), Cond.methodLink RX6 106 yX6_isBelow]
def wsL_law_r16 : List Cond := [Cond.methodLink RX6 110 yX0_dialAt, Cond.instanceMethod yX0_dialAt, Cond.selects RX0 yX0_dialAt yX0_dialAt, Cond.code yX0_dialAt cX0_dialAt 3 (some .int), Cond.methodLink RX0 38 yX0_handAt, Cond.instanceMethod yX0_handAt, Cond.selects RX0 yX0_handAt yX0_handAt, Cond.code yX0_handAt cX0_handAt 3 (some .int), Cond.methodLink RX0 34 yX0_way, Cond.instanceMethod yX0_way, Cond.selects RX0 yX0_way yX0_way, Cond.code yX0_way cX0_way 4 (some .int), Cond.methodLink RX0 41 yJ9_floorDiv_7cf53, Cond.static yJ9_floorDiv_7cf53, Cond.initialized RJ9, Cond.code yJ9_floorDiv_7cf53 cJ9_floorDiv_7cf53 3 (some .int), Cond.methodLink RX0 46 yJ9_floorMod_7cf53, Cond.static yJ9_floorMod_7cf53, Cond.code yJ9_floorMod_7cf53 cJ9_floorMod_7cf53 3 (some .int), Cond.methodLink RL 42 yX7_shows, Cond.instanceMethod yX7_shows, Cond.selects RX7 yX7_shows yX7_shows, Cond.code yX7_shows cX7_shows 4 (some .int), Cond.methodLink RX7 150 yX7_isMinute]
def wsL_law_r17 : List Cond := [Cond.static yX7_isMinute, Cond.code yX7_isMinute cX7_isMinute 1 (some .boolean), Cond.methodLink RX7 153 yX7_hand, Cond.instanceMethod yX7_hand, Cond.selects RX7 yX7_hand yX7_hand, Cond.code yX7_hand cX7_hand 5 (some .int), Cond.methodLink RX7 157 yX7_down, Cond.static yX7_down, Cond.code yX7_down cX7_down 2 (some .int), Cond.methodLink RX7 146 yX7_rest, Cond.static yX7_rest, Cond.code yX7_rest cX7_rest 3 (some .int), Cond.methodLink RL 43 yX6_can, Cond.instanceMethod yX6_can, Cond.selects RX6 yX6_can yX6_can, Cond.code yX6_can cX6_can 5 (some .int), Cond.methodLink RX6 114 yX0_canShow, Cond.instanceMethod yX0_canShow, Cond.selects RX0 yX0_canShow yX0_canShow, Cond.code yX0_canShow cX0_canShow 7 (some .boolean), Cond.methodLink RX0 49 Lib.Math.min.name, Cond.static Lib.Math.min.name, Cond.initialized "java/lang/Math", Cond.code Lib.Math.min.name Lib.Math.min.code 2 (some .int)]
def wsL_law_r18 : List Cond := [Cond.methodLink RX0 52 Lib.Math.max.name, Cond.static Lib.Math.max.name, Cond.code Lib.Math.max.name Lib.Math.max.code 2 (some .int), Cond.methodLink RL 46 yX7_can, Cond.instanceMethod yX7_can, Cond.selects RX7 yX7_can yX7_can, Cond.code yX7_can cX7_can 4 (some .int), Cond.methodLink RX7 163 yX7_canShow, Cond.instanceMethod yX7_canShow, Cond.selects RX7 yX7_canShow yX7_canShow, Cond.code yX7_canShow cX7_canShow 4 (some .boolean), Cond.methodLink RX7 160 yX7_isBetween, Cond.static yX7_isBetween, Cond.code yX7_isBetween cX7_isBetween 5 (some .boolean), Cond.methodLink RL 47 yX6_fits, Cond.instanceMethod yX6_fits, Cond.selects RX6 yX6_fits yX6_fits, Cond.code yX6_fits cX6_fits 2 (some .int), Cond.methodLink RX6 117 yX1_readBits, Cond.instanceMethod yX1_readBits, Cond.selects RX1 yX1_readBits yX1_readBits, Cond.code yX1_readBits cX1_readBits 3 (some .int), Cond.methodLink RX6 120 yX1_misfitsAt, Cond.instanceMethod yX1_misfitsAt]
def wsL_law_r19 : List Cond := [Cond.selects RX1 yX1_misfitsAt yX1_misfitsAt, Cond.code yX1_misfitsAt cX1_misfitsAt 5 (some .int), Cond.methodLink RX1 47 yX0_canShow, Cond.methodLink RL 51 yX7_fits, Cond.instanceMethod yX7_fits, Cond.selects RX7 yX7_fits yX7_fits, Cond.code yX7_fits cX7_fits 2 (some .int), Cond.methodLink RX7 166 yX7_fitAt, Cond.instanceMethod yX7_fitAt, Cond.selects RX7 yX7_fitAt yX7_fitAt, Cond.code yX7_fitAt cX7_fitAt 4 (some .int), Cond.methodLink RL 52 yX6_times, Cond.instanceMethod yX6_times, Cond.selects RX6 yX6_times yX6_times, Cond.code yX6_times cX6_times 3 (some .int), Cond.methodLink RX6 123 yX6_sift, Cond.instanceMethod yX6_sift, Cond.selects RX6 yX6_sift yX6_sift, Cond.code yX6_sift cX6_sift 2 none, Cond.methodLink RX6 126 yX4_clear, Cond.instanceMethod yX4_clear, Cond.selects RX4 yX4_clear yX4_clear, Cond.code yX4_clear cX4_clear 1 none, Cond.methodLink RX6 129 yX4_add]
def wsL_law_r20 : List Cond := [Cond.instanceMethod yX4_add, Cond.selects RX4 yX4_add yX4_add, Cond.code yX4_add cX4_add 2 none, Cond.methodLink RX6 132 yX4_tell, Cond.instanceMethod yX4_tell, Cond.selects RX4 yX4_tell yX4_tell, Cond.code yX4_tell cX4_tell 2 (some .int), Cond.methodLink RL 55 yX7_times, Cond.instanceMethod yX7_times, Cond.selects RX7 yX7_times yX7_times, Cond.code yX7_times cX7_times 7 (some .int), Cond.methodLink RX7 170 yX7_layFits, Cond.instanceMethod yX7_layFits, Cond.selects RX7 yX7_layFits yX7_layFits, Cond.code yX7_layFits cX7_layFits 2 none, Cond.methodLink RL 56 yX6_liars, Cond.instanceMethod yX6_liars, Cond.selects RX6 yX6_liars yX6_liars, Cond.code yX6_liars cX6_liars 4 (some .int), Cond.methodLink RX6 135 yX6_isLess, Cond.static yX6_isLess, Cond.code yX6_isLess cX6_isLess 3 (some .boolean), Cond.methodLink RX6 138 yJ6_bitCount_0f7a4, Cond.static yJ6_bitCount_0f7a4]
def wsL_law_r21 : List Cond := [Cond.initialized RJ6, Cond.code yJ6_bitCount_0f7a4 cJ6_bitCount_0f7a4 1 (some .int), Cond.constant RJ6 265 (1431655765), Cond.constant RJ6 266 (858993459), Cond.constant RJ6 267 (252645135), Cond.methodLink RL 59 yX7_liars, Cond.instanceMethod yX7_liars, Cond.selects RX7 yX7_liars yX7_liars, Cond.code yX7_liars cX7_liars 6 (some .int), Cond.methodLink RX7 173 yX7_bits, Cond.static yX7_bits, Cond.code yX7_bits cX7_bits 3 (some .int), Cond.methodLink RL 60 yX6_next, Cond.instanceMethod yX6_next, Cond.selects RX6 yX6_next yX6_next, Cond.code yX6_next cX6_next 7 (some .int), Cond.methodLink RX6 143 yX6_mostLeftBy, Cond.instanceMethod yX6_mostLeftBy, Cond.selects RX6 yX6_mostLeftBy yX6_mostLeftBy, Cond.code yX6_mostLeftBy cX6_mostLeftBy 5 (some .int), Cond.methodLink RX6 153 Lib.Math.max.name, Cond.methodLink RX6 147 yJ7_fill_53178, Cond.static yJ7_fill_53178, Cond.initialized RJ7]
def wsL_law_r22 : List Cond := [Cond.code yJ7_fill_53178 cJ7_fill_53178 4 none, Cond.methodLink RL 63 yX7_next, Cond.instanceMethod yX7_next, Cond.selects RX7 yX7_next yX7_next, Cond.code yX7_next cX7_next 8 (some .int), Cond.methodLink RX7 176 yX7_isExact, Cond.instanceMethod yX7_isExact, Cond.selects RX7 yX7_isExact yX7_isExact, Cond.code yX7_isExact cX7_isExact 2 (some .boolean), Cond.methodLink RL 64 yX6_note, Cond.instanceMethod yX6_note, Cond.selects RX6 yX6_note yX6_note, Cond.code yX6_note cX6_note 4 (some .int), Cond.fieldLink RX6 158 "WrongClocks$House" "notes" "LWrongClocks$Notes;", Cond.fieldLink RX6 167 "WrongClocks$Notes" "many" "I", Cond.methodLink RX6 162 yX2_add, Cond.instanceMethod yX2_add, Cond.selects RX2 yX2_add yX2_add, Cond.code yX2_add cX2_add 4 (some .boolean), Cond.methodLink RL 67 yX7_note, Cond.instanceMethod yX7_note, Cond.selects RX7 yX7_note yX7_note, Cond.code yX7_note cX7_note 4 (some .int), Cond.fieldLink RX7 179 "WrongClocksModel" "noted" "I"]
def wsL_law_r23 : List Cond := [Cond.methodLink RL 68 yX6_burn, Cond.instanceMethod yX6_burn, Cond.selects RX6 yX6_burn yX6_burn, Cond.code yX6_burn cX6_burn 2 (some .int), Cond.methodLink RL 71 yX7_burn, Cond.instanceMethod yX7_burn, Cond.selects RX7 yX7_burn yX7_burn, Cond.code yX7_burn cX7_burn 2 (some .int), Cond.methodLink RL 72 yX6_rates, Cond.instanceMethod yX6_rates, Cond.selects RX6 yX6_rates yX6_rates, Cond.code yX6_rates cX6_rates 5 (some .int), Cond.methodLink RX6 170 yX2_allow, Cond.instanceMethod yX2_allow, Cond.selects RX2 yX2_allow yX2_allow, Cond.code yX2_allow cX2_allow 11 (some .boolean), Cond.constant RX2 35 (518400), Cond.constant RX2 36 (1036800), Cond.methodLink RX2 42 Lib.Math.min.name, Cond.methodLink RX2 45 Lib.Math.max.name, Cond.methodLink RX2 29 yX0_way, Cond.methodLink RX2 37 yJ9_floorMod_7cf53, Cond.methodLink RL 75 yX7_rates, Cond.instanceMethod yX7_rates]
def wsL_law_r24 : List Cond := [Cond.selects RX7 yX7_rates yX7_rates, Cond.code yX7_rates cX7_rates 7 (some .int), Cond.methodLink RX7 184 yX7_isNoted, Cond.instanceMethod yX7_isNoted, Cond.selects RX7 yX7_isNoted yX7_isNoted, Cond.code yX7_isNoted cX7_isNoted 10 (some .boolean), Cond.constant RX7 182 (1036800), Cond.constant RX7 183 (518400), Cond.methodLink RL 76 yX6_again, Cond.instanceMethod yX6_again, Cond.selects RX6 yX6_again yX6_again, Cond.code yX6_again cX6_again 16 (some .int), Cond.constant RX6 178 (9999999), Cond.constantLong RX6 186 (-1), Cond.constantLong RX6 188 (1036800), Cond.methodLink RX6 194 Lib.MathLoose.max_long.x, Cond.static Lib.MathLoose.max_long.x, Cond.code Lib.MathLoose.max_long.x Lib.MathLoose.max_long.code 4 (some .long), Cond.methodLink RX6 174 yX6_canMeet, Cond.instanceMethod yX6_canMeet, Cond.selects RX6 yX6_canMeet yX6_canMeet, Cond.code yX6_canMeet cX6_canMeet 4 (some .boolean), Cond.methodLink RX6 179 yX0_handAt, Cond.methodLink RX6 182 yX6_leastFactor]
def wsL_law_r25 : List Cond := [Cond.static yX6_leastFactor, Cond.code yX6_leastFactor cX6_leastFactor 12 (some .long), Cond.methodLink RX6 196 yJ9_floorMod_f86c9, Cond.static yJ9_floorMod_f86c9, Cond.code yJ9_floorMod_f86c9 cJ9_floorMod_f86c9 6 (some .long), Cond.methodLink RX6 190 yX6_sharedWithRound, Cond.static yX6_sharedWithRound, Cond.code yX6_sharedWithRound cX6_sharedWithRound 2 (some .long), Cond.methodLink RX6 202 yX6_commonDivisor, Cond.static yX6_commonDivisor, Cond.code yX6_commonDivisor cX6_commonDivisor 11 (some .long), Cond.methodLink RX6 199 yX6_inverse, Cond.static yX6_inverse, Cond.code yX6_inverse cX6_inverse 19 (some .long), Cond.methodLink RL 79 yX7_again, Cond.instanceMethod yX7_again, Cond.selects RX7 yX7_again yX7_again, Cond.code yX7_again cX7_again 6 (some .int), Cond.constant RX7 198 (9999999), Cond.fieldLink RX7 193 "WrongClocksModel" "againAt" "I", Cond.methodLink RX7 199 yX7_isFirstAgain, Cond.instanceMethod yX7_isFirstAgain, Cond.selects RX7 yX7_isFirstAgain yX7_isFirstAgain, Cond.code yX7_isFirstAgain cX7_isFirstAgain 17 (some .boolean)]
def wsL_law_r26 : List Cond := [Cond.fieldLink RX7 190 "WrongClocksModel" "againStep" "I", Cond.methodLink RX7 187 yX7_common, Cond.static yX7_common, Cond.code yX7_common cX7_common 5 (some .int), Cond.methodLink RX7 202 yX7_isAgain, Cond.instanceMethod yX7_isAgain, Cond.selects RX7 yX7_isAgain yX7_isAgain, Cond.code yX7_isAgain cX7_isAgain 8 (some .boolean), Cond.constantLong RX7 196 (1036800), Cond.methodLink RL 80 yX6_stopped, Cond.instanceMethod yX6_stopped, Cond.selects RX6 yX6_stopped yX6_stopped, Cond.code yX6_stopped cX6_stopped 7 (some .int), Cond.methodLink RL 83 yX7_stopped, Cond.instanceMethod yX7_stopped, Cond.selects RX7 yX7_stopped yX7_stopped, Cond.code yX7_stopped cX7_stopped 8 (some .int), Cond.methodLink RL 84 yX6_setBy, Cond.instanceMethod yX6_setBy, Cond.selects RX6 yX6_setBy yX6_setBy, Cond.code yX6_setBy cX6_setBy 9 (some .int), Cond.constant RX6 213 (1036800), Cond.constant RX6 216 (86400), Cond.methodLink RX6 205 yX0_runsByOneRate]
def wsL_law_r27 : List Cond := [Cond.instanceMethod yX0_runsByOneRate, Cond.selects RX0 yX0_runsByOneRate yX0_runsByOneRate, Cond.code yX0_runsByOneRate cX0_runsByOneRate 1 (some .boolean), Cond.methodLink RX6 209 yX0_copy, Cond.instanceMethod yX0_copy, Cond.selects RX0 yX0_copy yX0_copy, Cond.code yX0_copy cX0_copy 2 none, Cond.methodLink RX0 30 yX0_tell, Cond.methodLink RX6 214 yJ9_floorMod_7cf53, Cond.methodLink RL 88 yX7_setBy, Cond.instanceMethod yX7_setBy, Cond.selects RX7 yX7_setBy yX7_setBy, Cond.code yX7_setBy cX7_setBy 9 (some .int), Cond.constant RX7 205 (86400), Cond.methodLink RL 89 yX6_egg, Cond.instanceMethod yX6_egg, Cond.selects RX6 yX6_egg yX6_egg, Cond.code yX6_egg cX6_egg 14 (some .long), Cond.constantLong RX6 217 (-2), Cond.constantLong RX6 219 (-3), Cond.constantLong RX6 221 (-4), Cond.methodLink RX6 223 yX6_leastOff, Cond.static yX6_leastOff, Cond.code yX6_leastOff cX6_leastOff 24 (some .long)]
def wsL_law_r28 : List Cond := [Cond.methodLink RX6 230 Lib.MathLoose.abs_long.x, Cond.static Lib.MathLoose.abs_long.x, Cond.code Lib.MathLoose.abs_long.x Lib.MathLoose.abs_long.code 2 (some .long), Cond.methodLink RX6 227 yX0_partsToWholeMinute, Cond.instanceMethod yX0_partsToWholeMinute, Cond.selects RX0 yX0_partsToWholeMinute yX0_partsToWholeMinute, Cond.code yX0_partsToWholeMinute cX0_partsToWholeMinute 2 (some .int), Cond.methodLink RL 93 yX7_egg, Cond.instanceMethod yX7_egg, Cond.selects RX7 yX7_egg yX7_egg, Cond.code yX7_egg cX7_egg 20 (some .long), Cond.constantLong RX7 209 (1440), Cond.methodLink RX7 206 yX7_toWhole, Cond.instanceMethod yX7_toWhole, Cond.selects RX7 yX7_toWhole yX7_toWhole, Cond.code yX7_toWhole cX7_toWhole 4 (some .int), Cond.methodLink RL 94 yX6_order, Cond.instanceMethod yX6_order, Cond.selects RX6 yX6_order yX6_order, Cond.code yX6_order cX6_order 4 (some .int), Cond.fieldLink RX6 237 "WrongClocks$Queue" "many" "I", Cond.methodLink RX6 233 yX3_clear, Cond.instanceMethod yX3_clear, Cond.selects RX3 yX3_clear yX3_clear]
def wsL_law_r29 : List Cond := [Cond.code yX3_clear cX3_clear 1 none, Cond.methodLink RX6 234 yX3_add, Cond.instanceMethod yX3_add, Cond.selects RX3 yX3_add yX3_add, Cond.code yX3_add cX3_add 3 none, Cond.methodLink RX6 238 yX3_weigh, Cond.instanceMethod yX3_weigh, Cond.selects RX3 yX3_weigh yX3_weigh, Cond.code yX3_weigh cX3_weigh 4 none, Cond.methodLink RX3 32 Lib.Math.max.name, Cond.methodLink RX3 25 yX3_leastBehind, Cond.instanceMethod yX3_leastBehind, Cond.selects RX3 yX3_leastBehind yX3_leastBehind, Cond.code yX3_leastBehind cX3_leastBehind 2 (some .int), Cond.methodLink RX3 29 yX3_errorBehind, Cond.instanceMethod yX3_errorBehind, Cond.selects RX3 yX3_errorBehind yX3_errorBehind, Cond.code yX3_errorBehind cX3_errorBehind 4 (some .int), Cond.methodLink RX3 38 Lib.Math.abs.name, Cond.static Lib.Math.abs.name, Cond.code Lib.Math.abs.name Lib.Math.abs.code 1 (some .int), Cond.methodLink RX6 241 yX3_leastError, Cond.instanceMethod yX3_leastError, Cond.selects RX3 yX3_leastError yX3_leastError]
def wsL_law_r30 : List Cond := [Cond.code yX3_leastError cX3_leastError 1 (some .int), Cond.methodLink RX6 244 yX3_clockAt, Cond.instanceMethod yX3_clockAt, Cond.selects RX3 yX3_clockAt yX3_clockAt, Cond.code yX3_clockAt cX3_clockAt 5 (some .int), Cond.methodLink RX3 45 yX3_firstBehind, Cond.instanceMethod yX3_firstBehind, Cond.selects RX3 yX3_firstBehind yX3_firstBehind, Cond.code yX3_firstBehind cX3_firstBehind 3 (some .int), Cond.methodLink RL 97 yX7_order, Cond.instanceMethod yX7_order, Cond.selects RX7 yX7_order yX7_order, Cond.code yX7_order cX7_order 4 (some .int), Cond.fieldLink RX7 211 "WrongClocksModel" "orderMany" "I", Cond.fieldLink RX7 218 "WrongClocksModel" "orderLeast" "I", Cond.methodLink RX7 221 yX7_take, Cond.instanceMethod yX7_take, Cond.selects RX7 yX7_take yX7_take, Cond.code yX7_take cX7_take 2 none, Cond.methodLink RX7 214 yX7_greatest, Cond.instanceMethod yX7_greatest, Cond.selects RX7 yX7_greatest yX7_greatest, Cond.code yX7_greatest cX7_greatest 5 (some .int), Cond.methodLink RX7 224 yX7_nextRow]
def wsL_law_r31 : List Cond := [Cond.instanceMethod yX7_nextRow, Cond.selects RX7 yX7_nextRow yX7_nextRow, Cond.code yX7_nextRow cX7_nextRow 6 (some .boolean), Cond.methodLink RL 98 yX6_keep, Cond.instanceMethod yX6_keep, Cond.selects RX6 yX6_keep yX6_keep, Cond.code yX6_keep cX6_keep 2 (some .int), Cond.fieldLink RX6 250 "WrongClocks$House" "filled" "Z", Cond.methodLink RX6 247 yX1_copy, Cond.instanceMethod yX1_copy, Cond.selects RX1 yX1_copy yX1_copy, Cond.code yX1_copy cX1_copy 3 none, Cond.methodLink RX1 29 yX0_copy, Cond.methodLink RX1 33 yX2_copy, Cond.instanceMethod yX2_copy, Cond.selects RX2 yX2_copy yX2_copy, Cond.code yX2_copy cX2_copy 3 none, Cond.methodLink RX2 25 yX2_add, Cond.methodLink RL 101 yX7_keep, Cond.instanceMethod yX7_keep, Cond.selects RX7 yX7_keep yX7_keep, Cond.code yX7_keep cX7_keep 4 (some .int), Cond.methodLink RL 102 yX6_back, Cond.instanceMethod yX6_back]
def wsL_law_r32 : List Cond := [Cond.selects RX6 yX6_back yX6_back, Cond.code yX6_back cX6_back 2 (some .int), Cond.methodLink RL 105 yX7_back, Cond.instanceMethod yX7_back, Cond.selects RX7 yX7_back yX7_back, Cond.code yX7_back cX7_back 4 (some .int), Cond.methodLink RL 106 yX6_count, Cond.instanceMethod yX6_count, Cond.selects RX6 yX6_count yX6_count, Cond.code yX6_count cX6_count 2 (some .int), Cond.methodLink RL 109 yX7_count, Cond.instanceMethod yX7_count, Cond.selects RX7 yX7_count yX7_count, Cond.code yX7_count cX7_count 2 (some .int)]
def wsL_law : List Cond := (wsL_law_r1 ++ (wsL_law_r2 ++ (wsL_law_r3 ++ (wsL_law_r4 ++ (wsL_law_r5 ++ (wsL_law_r6 ++ (wsL_law_r7 ++ (wsL_law_r8 ++ (wsL_law_r9 ++ (wsL_law_r10 ++ (wsL_law_r11 ++ (wsL_law_r12 ++ (wsL_law_r13 ++ (wsL_law_r14 ++ (wsL_law_r15 ++ (wsL_law_r16 ++ (wsL_law_r17 ++ (wsL_law_r18 ++ (wsL_law_r19 ++ (wsL_law_r20 ++ (wsL_law_r21 ++ (wsL_law_r22 ++ (wsL_law_r23 ++ (wsL_law_r24 ++ (wsL_law_r25 ++ (wsL_law_r26 ++ (wsL_law_r27 ++ (wsL_law_r28 ++ (wsL_law_r29 ++ (wsL_law_r30 ++ (wsL_law_r31 ++ wsL_law_r32))))))))))))))))))))))))))))))) ++ wsX60 ++ wsX70 ++ wsX50 ++ wsX10 ++ wsX40 ++ wsX00 ++ wsX30 ++ wsX20 ++ ([] : List Cond)
abbrev vwCl : List vw_C := [(RX0, TX0, 6), (RX1, TX1, 3), (RX2, TX2, 4), (RX3, TX3, 4), (RX4, TX4, 4), (RX5, TX5, 6), (RX6, TX6, 9), (RX7, TX7, 26)]
end
section
theorem dX7_init_0 : decode cX7_init 0 = .ok (.aload_n 0, 1) := by decide +kernel
theorem dX7_init_1 : decode cX7_init 1 = .ok (.invokespecial 1, 3) := by decide +kernel
theorem dX7_init_4 : decode cX7_init 4 = .ok (.aload_n 0, 1) := by decide +kernel
theorem dX7_init_5 : decode cX7_init 5 = .ok (.bipush 48, 2) := by decide +kernel
theorem dX7_init_7 : decode cX7_init 7 = .ok (.newarray .int, 2) := by decide +kernel
theorem dX7_init_9 : decode cX7_init 9 = .ok (.putfield 7, 3) := by decide +kernel
theorem dX7_init_12 : decode cX7_init 12 = .ok (.aload_n 0, 1) := by decide +kernel
theorem dX7_init_13 : decode cX7_init 13 = .ok (.bipush 36, 2) := by decide +kernel
theorem dX7_init_15 : decode cX7_init 15 = .ok (.newarray .int, 2) := by decide +kernel
theorem dX7_init_17 : decode cX7_init 17 = .ok (.putfield 13, 3) := by decide +kernel
theorem dX7_init_20 : decode cX7_init 20 = .ok (.aload_n 0, 1) := by decide +kernel
theorem dX7_init_21 : decode cX7_init 21 = .ok (.sipush 200, 3) := by decide +kernel
theorem dX7_init_24 : decode cX7_init 24 = .ok (.newarray .int, 2) := by decide +kernel
theorem dX7_init_26 : decode cX7_init 26 = .ok (.putfield 16, 3) := by decide +kernel
theorem dX7_init_29 : decode cX7_init 29 = .ok (.aload_n 0, 1) := by decide +kernel
theorem dX7_init_30 : decode cX7_init 30 = .ok (.bipush 48, 2) := by decide +kernel
theorem dX7_init_32 : decode cX7_init 32 = .ok (.newarray .int, 2) := by decide +kernel
theorem dX7_init_34 : decode cX7_init 34 = .ok (.putfield 19, 3) := by decide +kernel
theorem dX7_init_37 : decode cX7_init 37 = .ok (.aload_n 0, 1) := by decide +kernel
theorem dX7_init_38 : decode cX7_init 38 = .ok (.sipush 4320, 3) := by decide +kernel
theorem dX7_init_41 : decode cX7_init 41 = .ok (.newarray .int, 2) := by decide +kernel
theorem dX7_init_43 : decode cX7_init 43 = .ok (.putfield 22, 3) := by decide +kernel
theorem dX7_init_46 : decode cX7_init 46 = .ok (.aload_n 0, 1) := by decide +kernel
theorem dX7_init_47 : decode cX7_init 47 = .ok (.sipush 720, 3) := by decide +kernel
theorem dX7_init_50 : decode cX7_init 50 = .ok (.newarray .int, 2) := by decide +kernel
theorem dX7_init_52 : decode cX7_init 52 = .ok (.putfield 25, 3) := by decide +kernel
theorem dX7_init_55 : decode cX7_init 55 = .ok (.aload_n 0, 1) := by decide +kernel
theorem dX7_init_56 : decode cX7_init 56 = .ok (.sipush 180, 3) := by decide +kernel
theorem dX7_init_59 : decode cX7_init 59 = .ok (.newarray .int, 2) := by decide +kernel
theorem dX7_init_61 : decode cX7_init 61 = .ok (.putfield 28, 3) := by decide +kernel
theorem dX7_init_64 : decode cX7_init 64 = .ok (.aload_n 0, 1) := by decide +kernel
theorem dX7_init_65 : decode cX7_init 65 = .ok (.iconst 2, 1) := by decide +kernel
theorem dX7_init_66 : decode cX7_init 66 = .ok (.newarray .boolean, 2) := by decide +kernel
theorem dX7_init_68 : decode cX7_init 68 = .ok (.putfield 31, 3) := by decide +kernel
theorem dX7_init_71 : decode cX7_init 71 = .ok (.aload_n 0, 1) := by decide +kernel
theorem dX7_init_72 : decode cX7_init 72 = .ok (.bipush 6, 2) := by decide +kernel
theorem dX7_init_74 : decode cX7_init 74 = .ok (.newarray .int, 2) := by decide +kernel
theorem dX7_init_76 : decode cX7_init 76 = .ok (.putfield 35, 3) := by decide +kernel
theorem dX7_init_79 : decode cX7_init 79 = .ok (.aload_n 0, 1) := by decide +kernel
theorem dX7_init_80 : decode cX7_init 80 = .ok (.bipush 6, 2) := by decide +kernel
theorem dX7_init_82 : decode cX7_init 82 = .ok (.newarray .int, 2) := by decide +kernel
theorem dX7_init_84 : decode cX7_init 84 = .ok (.putfield 38, 3) := by decide +kernel
theorem dX7_init_87 : decode cX7_init 87 = .ok (.return_, 1) := by decide +kernel
theorem dX7_in_0 : decode cX7_in 0 = .ok (.iload_n 0, 1) := by decide +kernel
theorem dX7_in_1 : decode cX7_in 1 = .ok (.iload_n 1, 1) := by decide +kernel
theorem dX7_in_2 : decode cX7_in 2 = .ok (.if_icmp .lt 12, 3) := by decide +kernel
theorem dX7_in_5 : decode cX7_in 5 = .ok (.iload_n 0, 1) := by decide +kernel
theorem dX7_in_6 : decode cX7_in 6 = .ok (.iload_n 2, 1) := by decide +kernel
theorem dX7_in_7 : decode cX7_in 7 = .ok (.if_icmp .gt 7, 3) := by decide +kernel
theorem dX7_in_10 : decode cX7_in 10 = .ok (.iconst 1, 1) := by decide +kernel
theorem dX7_in_11 : decode cX7_in 11 = .ok (.goto 4, 3) := by decide +kernel
theorem dX7_in_14 : decode cX7_in 14 = .ok (.iconst 0, 1) := by decide +kernel
theorem dX7_in_15 : decode cX7_in 15 = .ok (.ireturn, 1) := by decide +kernel
theorem dX7_has_0 : decode cX7_has 0 = .ok (.iload_n 0, 1) := by decide +kernel
theorem dX7_has_1 : decode cX7_has 1 = .ok (.iload_n 1, 1) := by decide +kernel
theorem dX7_has_2 : decode cX7_has 2 = .ok (.ishr, 1) := by decide +kernel
theorem dX7_has_3 : decode cX7_has 3 = .ok (.iconst 1, 1) := by decide +kernel
theorem dX7_has_4 : decode cX7_has 4 = .ok (.iand, 1) := by decide +kernel
theorem dX7_has_5 : decode cX7_has 5 = .ok (.iconst 1, 1) := by decide +kernel
theorem dX7_has_6 : decode cX7_has 6 = .ok (.if_icmp .ne 7, 3) := by decide +kernel
theorem dX7_has_9 : decode cX7_has 9 = .ok (.iconst 1, 1) := by decide +kernel
theorem dX7_has_10 : decode cX7_has 10 = .ok (.goto 4, 3) := by decide +kernel
theorem dX7_has_13 : decode cX7_has 13 = .ok (.iconst 0, 1) := by decide +kernel
theorem dX7_has_14 : decode cX7_has 14 = .ok (.ireturn, 1) := by decide +kernel
theorem dX7_bits_0 : decode cX7_bits 0 = .ok (.iconst 0, 1) := by decide +kernel
theorem dX7_bits_1 : decode cX7_bits 1 = .ok (.istore_n 1, 1) := by decide +kernel
theorem dX7_bits_2 : decode cX7_bits 2 = .ok (.iconst 0, 1) := by decide +kernel
theorem dX7_bits_3 : decode cX7_bits 3 = .ok (.istore_n 2, 1) := by decide +kernel
theorem dX7_bits_4 : decode cX7_bits 4 = .ok (.iload_n 2, 1) := by decide +kernel
theorem dX7_bits_5 : decode cX7_bits 5 = .ok (.bipush 8, 2) := by decide +kernel
theorem dX7_bits_7 : decode cX7_bits 7 = .ok (.if_icmp .ge 17, 3) := by decide +kernel
theorem dX7_bits_10 : decode cX7_bits 10 = .ok (.iload_n 1, 1) := by decide +kernel
theorem dX7_bits_11 : decode cX7_bits 11 = .ok (.iload_n 0, 1) := by decide +kernel
theorem dX7_bits_12 : decode cX7_bits 12 = .ok (.iload_n 2, 1) := by decide +kernel
theorem dX7_bits_13 : decode cX7_bits 13 = .ok (.ishr, 1) := by decide +kernel
theorem dX7_bits_14 : decode cX7_bits 14 = .ok (.iconst 1, 1) := by decide +kernel
theorem dX7_bits_15 : decode cX7_bits 15 = .ok (.iand, 1) := by decide +kernel
theorem dX7_bits_16 : decode cX7_bits 16 = .ok (.iadd, 1) := by decide +kernel
theorem dX7_bits_17 : decode cX7_bits 17 = .ok (.istore_n 1, 1) := by decide +kernel
theorem dX7_bits_18 : decode cX7_bits 18 = .ok (.iinc 2 1, 3) := by decide +kernel
theorem dX7_bits_21 : decode cX7_bits 21 = .ok (.goto (-17), 3) := by decide +kernel
theorem dX7_bits_24 : decode cX7_bits 24 = .ok (.iload_n 1, 1) := by decide +kernel
theorem dX7_bits_25 : decode cX7_bits 25 = .ok (.ireturn, 1) := by decide +kernel
set_option maxRecDepth 20000 in
theorem ggX7_isClock_X7_in : GoodIn wsX7_isClock wsX7_in := goodIn_r _ [5] (by decide +kernel) (by decide +kernel)
set_option maxRecDepth 20000 in
theorem gX7_isClock_X7_in : GoodIn wsX7_isClock (va_wsS RX7 41 yX7_in wsX7_in) := goodIn_app (goodIn_of _ (by decide +kernel)) ggX7_isClock_X7_in
set_option maxRecDepth 20000 in
theorem ggX7_isClock_X7_has : GoodIn wsX7_isClock wsX7_has := goodIn_r _ [8] (by decide +kernel) (by decide +kernel)
set_option maxRecDepth 20000 in
theorem gX7_isClock_X7_has : GoodIn wsX7_isClock (va_wsS RX7 49 yX7_has wsX7_has) := goodIn_app (goodIn_of _ (by decide +kernel)) ggX7_isClock_X7_has
theorem dX7_isClock_0 : decode cX7_isClock 0 = .ok (.iload_n 1, 1) := by decide +kernel
theorem dX7_isClock_1 : decode cX7_isClock 1 = .ok (.iconst 0, 1) := by decide +kernel
theorem dX7_isClock_2 : decode cX7_isClock 2 = .ok (.bipush 7, 2) := by decide +kernel
theorem dX7_isClock_4 : decode cX7_isClock 4 = .ok (.invokestatic 41, 3) := by decide +kernel
theorem dX7_isClock_7 : decode cX7_isClock 7 = .ok (.ifCond .eq 18, 3) := by decide +kernel
theorem dX7_isClock_10 : decode cX7_isClock 10 = .ok (.aload_n 0, 1) := by decide +kernel
theorem dX7_isClock_11 : decode cX7_isClock 11 = .ok (.getfield 45, 3) := by decide +kernel
theorem dX7_isClock_14 : decode cX7_isClock 14 = .ok (.iload_n 1, 1) := by decide +kernel
theorem dX7_isClock_15 : decode cX7_isClock 15 = .ok (.invokestatic 49, 3) := by decide +kernel
theorem dX7_isClock_18 : decode cX7_isClock 18 = .ok (.ifCond .eq 7, 3) := by decide +kernel
theorem dX7_isClock_21 : decode cX7_isClock 21 = .ok (.iconst 1, 1) := by decide +kernel
theorem dX7_isClock_22 : decode cX7_isClock 22 = .ok (.goto 4, 3) := by decide +kernel
theorem dX7_isClock_25 : decode cX7_isClock 25 = .ok (.iconst 0, 1) := by decide +kernel
theorem dX7_isClock_26 : decode cX7_isClock 26 = .ok (.ireturn, 1) := by decide +kernel
set_option maxRecDepth 20000 in
theorem ggX7_write_X7_in : GoodIn wsX7_write wsX7_in := goodIn_r _ [7] (by decide +kernel) (by decide +kernel)
set_option maxRecDepth 20000 in
theorem gX7_write_X7_in : GoodIn wsX7_write (va_wsS RX7 41 yX7_in wsX7_in) := goodIn_app (goodIn_of _ (by decide +kernel)) ggX7_write_X7_in
theorem dX7_write_0 : decode cX7_write 0 = .ok (.iload_n 3, 1) := by decide +kernel
theorem dX7_write_1 : decode cX7_write 1 = .ok (.iconst 1, 1) := by decide +kernel
theorem dX7_write_2 : decode cX7_write 2 = .ok (.bipush 8, 2) := by decide +kernel
theorem dX7_write_4 : decode cX7_write 4 = .ok (.invokestatic 41, 3) := by decide +kernel
theorem dX7_write_7 : decode cX7_write 7 = .ok (.ifCond .ne 6, 3) := by decide +kernel
theorem dX7_write_10 : decode cX7_write 10 = .ok (.bipush (-3), 2) := by decide +kernel
theorem dX7_write_12 : decode cX7_write 12 = .ok (.ireturn, 1) := by decide +kernel
theorem dX7_write_13 : decode cX7_write 13 = .ok (.aload_n 0, 1) := by decide +kernel
theorem dX7_write_14 : decode cX7_write 14 = .ok (.getfield 53, 3) := by decide +kernel
theorem dX7_write_17 : decode cX7_write 17 = .ok (.iload_n 3, 1) := by decide +kernel
theorem dX7_write_18 : decode cX7_write 18 = .ok (.iadd, 1) := by decide +kernel
theorem dX7_write_19 : decode cX7_write 19 = .ok (.sipush 200, 3) := by decide +kernel
theorem dX7_write_22 : decode cX7_write 22 = .ok (.if_icmp .le 6, 3) := by decide +kernel
theorem dX7_write_25 : decode cX7_write 25 = .ok (.bipush (-5), 2) := by decide +kernel
theorem dX7_write_27 : decode cX7_write 27 = .ok (.ireturn, 1) := by decide +kernel
theorem dX7_write_28 : decode cX7_write 28 = .ok (.iconst 0, 1) := by decide +kernel
theorem dX7_write_29 : decode cX7_write 29 = .ok (.istore 4, 2) := by decide +kernel
theorem dX7_write_31 : decode cX7_write 31 = .ok (.iload 4, 2) := by decide +kernel
theorem dX7_write_33 : decode cX7_write 33 = .ok (.iload_n 3, 1) := by decide +kernel
theorem dX7_write_34 : decode cX7_write 34 = .ok (.if_icmp .ge 33, 3) := by decide +kernel
theorem dX7_write_37 : decode cX7_write 37 = .ok (.aload_n 0, 1) := by decide +kernel
theorem dX7_write_38 : decode cX7_write 38 = .ok (.getfield 16, 3) := by decide +kernel
theorem dX7_write_41 : decode cX7_write 41 = .ok (.aload_n 0, 1) := by decide +kernel
theorem dX7_write_42 : decode cX7_write 42 = .ok (.getfield 53, 3) := by decide +kernel
theorem dX7_write_45 : decode cX7_write 45 = .ok (.iload 4, 2) := by decide +kernel
theorem dX7_write_47 : decode cX7_write 47 = .ok (.iadd, 1) := by decide +kernel
theorem dX7_write_48 : decode cX7_write 48 = .ok (.lload_n 1, 1) := by decide +kernel
theorem dX7_write_49 : decode cX7_write 49 = .ok (.bipush 8, 2) := by decide +kernel
theorem dX7_write_51 : decode cX7_write 51 = .ok (.iload 4, 2) := by decide +kernel
theorem dX7_write_53 : decode cX7_write 53 = .ok (.imul, 1) := by decide +kernel
theorem dX7_write_54 : decode cX7_write 54 = .ok (.lshr, 1) := by decide +kernel
theorem dX7_write_55 : decode cX7_write 55 = .ok (.ldc2_w 56, 3) := by decide +kernel
theorem dX7_write_58 : decode cX7_write 58 = .ok (.land, 1) := by decide +kernel
theorem dX7_write_59 : decode cX7_write 59 = .ok (.l2i, 1) := by decide +kernel
theorem dX7_write_60 : decode cX7_write 60 = .ok (.iastore, 1) := by decide +kernel
theorem dX7_write_61 : decode cX7_write 61 = .ok (.iinc 4 1, 3) := by decide +kernel
theorem dX7_write_64 : decode cX7_write 64 = .ok (.goto (-33), 3) := by decide +kernel
theorem dX7_write_67 : decode cX7_write 67 = .ok (.aload_n 0, 1) := by decide +kernel
theorem dX7_write_68 : decode cX7_write 68 = .ok (.dup, 1) := by decide +kernel
theorem dX7_write_69 : decode cX7_write 69 = .ok (.getfield 53, 3) := by decide +kernel
theorem dX7_write_72 : decode cX7_write 72 = .ok (.iload_n 3, 1) := by decide +kernel
theorem dX7_write_73 : decode cX7_write 73 = .ok (.iadd, 1) := by decide +kernel
theorem dX7_write_74 : decode cX7_write 74 = .ok (.putfield 53, 3) := by decide +kernel
theorem dX7_write_77 : decode cX7_write 77 = .ok (.aload_n 0, 1) := by decide +kernel
theorem dX7_write_78 : decode cX7_write 78 = .ok (.getfield 53, 3) := by decide +kernel
theorem dX7_write_81 : decode cX7_write 81 = .ok (.ireturn, 1) := by decide +kernel
theorem dX7_erase_0 : decode cX7_erase 0 = .ok (.aload_n 0, 1) := by decide +kernel
theorem dX7_erase_1 : decode cX7_erase 1 = .ok (.getfield 53, 3) := by decide +kernel
theorem dX7_erase_4 : decode cX7_erase 4 = .ok (.istore_n 1, 1) := by decide +kernel
theorem dX7_erase_5 : decode cX7_erase 5 = .ok (.aload_n 0, 1) := by decide +kernel
theorem dX7_erase_6 : decode cX7_erase 6 = .ok (.iconst 0, 1) := by decide +kernel
theorem dX7_erase_7 : decode cX7_erase 7 = .ok (.putfield 53, 3) := by decide +kernel
theorem dX7_erase_10 : decode cX7_erase 10 = .ok (.iload_n 1, 1) := by decide +kernel
theorem dX7_erase_11 : decode cX7_erase 11 = .ok (.ireturn, 1) := by decide +kernel
set_option maxRecDepth 20000 in
theorem ggX7_nextToken_X7_in : GoodIn wsX7_nextToken wsX7_in := goodIn_r _ [17] (by decide +kernel) (by decide +kernel)
set_option maxRecDepth 20000 in
theorem gX7_nextToken_X7_in : GoodIn wsX7_nextToken (va_wsS RX7 41 yX7_in wsX7_in) := goodIn_app (goodIn_of _ (by decide +kernel)) ggX7_nextToken_X7_in
theorem dX7_nextToken_0 : decode cX7_nextToken 0 = .ok (.aload_n 0, 1) := by decide +kernel
theorem dX7_nextToken_1 : decode cX7_nextToken 1 = .ok (.getfield 58, 3) := by decide +kernel
theorem dX7_nextToken_4 : decode cX7_nextToken 4 = .ok (.aload_n 0, 1) := by decide +kernel
theorem dX7_nextToken_5 : decode cX7_nextToken 5 = .ok (.getfield 53, 3) := by decide +kernel
theorem dX7_nextToken_8 : decode cX7_nextToken 8 = .ok (.if_icmp .ge 30, 3) := by decide +kernel
theorem dX7_nextToken_11 : decode cX7_nextToken 11 = .ok (.aload_n 0, 1) := by decide +kernel
theorem dX7_nextToken_12 : decode cX7_nextToken 12 = .ok (.getfield 16, 3) := by decide +kernel
theorem dX7_nextToken_15 : decode cX7_nextToken 15 = .ok (.aload_n 0, 1) := by decide +kernel
theorem dX7_nextToken_16 : decode cX7_nextToken 16 = .ok (.getfield 58, 3) := by decide +kernel
theorem dX7_nextToken_19 : decode cX7_nextToken 19 = .ok (.iaload, 1) := by decide +kernel
theorem dX7_nextToken_20 : decode cX7_nextToken 20 = .ok (.bipush 32, 2) := by decide +kernel
theorem dX7_nextToken_22 : decode cX7_nextToken 22 = .ok (.if_icmp .ne 16, 3) := by decide +kernel
theorem dX7_nextToken_25 : decode cX7_nextToken 25 = .ok (.aload_n 0, 1) := by decide +kernel
theorem dX7_nextToken_26 : decode cX7_nextToken 26 = .ok (.dup, 1) := by decide +kernel
theorem dX7_nextToken_27 : decode cX7_nextToken 27 = .ok (.getfield 58, 3) := by decide +kernel
theorem dX7_nextToken_30 : decode cX7_nextToken 30 = .ok (.iconst 1, 1) := by decide +kernel
theorem dX7_nextToken_31 : decode cX7_nextToken 31 = .ok (.iadd, 1) := by decide +kernel
theorem dX7_nextToken_32 : decode cX7_nextToken 32 = .ok (.putfield 58, 3) := by decide +kernel
theorem dX7_nextToken_35 : decode cX7_nextToken 35 = .ok (.goto (-35), 3) := by decide +kernel
theorem dX7_nextToken_38 : decode cX7_nextToken 38 = .ok (.aload_n 0, 1) := by decide +kernel
theorem dX7_nextToken_39 : decode cX7_nextToken 39 = .ok (.aload_n 0, 1) := by decide +kernel
theorem dX7_nextToken_40 : decode cX7_nextToken 40 = .ok (.getfield 58, 3) := by decide +kernel
theorem dX7_nextToken_43 : decode cX7_nextToken 43 = .ok (.putfield 61, 3) := by decide +kernel
theorem dX7_nextToken_46 : decode cX7_nextToken 46 = .ok (.aload_n 0, 1) := by decide +kernel
theorem dX7_nextToken_47 : decode cX7_nextToken 47 = .ok (.iconst 0, 1) := by decide +kernel
theorem dX7_nextToken_48 : decode cX7_nextToken 48 = .ok (.putfield 64, 3) := by decide +kernel
theorem dX7_nextToken_51 : decode cX7_nextToken 51 = .ok (.aload_n 0, 1) := by decide +kernel
theorem dX7_nextToken_52 : decode cX7_nextToken 52 = .ok (.iconst 0, 1) := by decide +kernel
theorem dX7_nextToken_53 : decode cX7_nextToken 53 = .ok (.putfield 67, 3) := by decide +kernel
theorem dX7_nextToken_56 : decode cX7_nextToken 56 = .ok (.aload_n 0, 1) := by decide +kernel
theorem dX7_nextToken_57 : decode cX7_nextToken 57 = .ok (.getfield 58, 3) := by decide +kernel
theorem dX7_nextToken_60 : decode cX7_nextToken 60 = .ok (.aload_n 0, 1) := by decide +kernel
theorem dX7_nextToken_61 : decode cX7_nextToken 61 = .ok (.getfield 53, 3) := by decide +kernel
theorem dX7_nextToken_64 : decode cX7_nextToken 64 = .ok (.if_icmp .ne 13, 3) := by decide +kernel
theorem dX7_nextToken_67 : decode cX7_nextToken 67 = .ok (.aload_n 0, 1) := by decide +kernel
theorem dX7_nextToken_68 : decode cX7_nextToken 68 = .ok (.ldc2_w 70, 3) := by decide +kernel
theorem dX7_nextToken_71 : decode cX7_nextToken 71 = .ok (.putfield 72, 3) := by decide +kernel
theorem dX7_nextToken_74 : decode cX7_nextToken 74 = .ok (.goto 320, 3) := by decide +kernel
theorem dX7_nextToken_77 : decode cX7_nextToken 77 = .ok (.aload_n 0, 1) := by decide +kernel
theorem dX7_nextToken_78 : decode cX7_nextToken 78 = .ok (.getfield 16, 3) := by decide +kernel
theorem dX7_nextToken_81 : decode cX7_nextToken 81 = .ok (.aload_n 0, 1) := by decide +kernel
theorem dX7_nextToken_82 : decode cX7_nextToken 82 = .ok (.getfield 58, 3) := by decide +kernel
theorem dX7_nextToken_85 : decode cX7_nextToken 85 = .ok (.iaload, 1) := by decide +kernel
theorem dX7_nextToken_86 : decode cX7_nextToken 86 = .ok (.bipush 97, 2) := by decide +kernel
theorem dX7_nextToken_88 : decode cX7_nextToken 88 = .ok (.bipush 122, 2) := by decide +kernel
theorem dX7_nextToken_90 : decode cX7_nextToken 90 = .ok (.invokestatic 41, 3) := by decide +kernel
theorem dX7_nextToken_93 : decode cX7_nextToken 93 = .ok (.ifCond .eq 129, 3) := by decide +kernel
theorem dX7_nextToken_96 : decode cX7_nextToken 96 = .ok (.aload_n 0, 1) := by decide +kernel
theorem dX7_nextToken_97 : decode cX7_nextToken 97 = .ok (.lconst 0, 1) := by decide +kernel
theorem dX7_nextToken_98 : decode cX7_nextToken 98 = .ok (.putfield 72, 3) := by decide +kernel
theorem dX7_nextToken_101 : decode cX7_nextToken 101 = .ok (.aload_n 0, 1) := by decide +kernel
theorem dX7_nextToken_102 : decode cX7_nextToken 102 = .ok (.getfield 58, 3) := by decide +kernel
theorem dX7_nextToken_105 : decode cX7_nextToken 105 = .ok (.aload_n 0, 1) := by decide +kernel
theorem dX7_nextToken_106 : decode cX7_nextToken 106 = .ok (.getfield 53, 3) := by decide +kernel
theorem dX7_nextToken_109 : decode cX7_nextToken 109 = .ok (.if_icmp .ge 82, 3) := by decide +kernel
theorem dX7_nextToken_112 : decode cX7_nextToken 112 = .ok (.aload_n 0, 1) := by decide +kernel
theorem dX7_nextToken_113 : decode cX7_nextToken 113 = .ok (.getfield 16, 3) := by decide +kernel
theorem dX7_nextToken_116 : decode cX7_nextToken 116 = .ok (.aload_n 0, 1) := by decide +kernel
theorem dX7_nextToken_117 : decode cX7_nextToken 117 = .ok (.getfield 58, 3) := by decide +kernel
theorem dX7_nextToken_120 : decode cX7_nextToken 120 = .ok (.iaload, 1) := by decide +kernel
theorem dX7_nextToken_121 : decode cX7_nextToken 121 = .ok (.bipush 97, 2) := by decide +kernel
theorem dX7_nextToken_123 : decode cX7_nextToken 123 = .ok (.bipush 122, 2) := by decide +kernel
theorem dX7_nextToken_125 : decode cX7_nextToken 125 = .ok (.invokestatic 41, 3) := by decide +kernel
theorem dX7_nextToken_128 : decode cX7_nextToken 128 = .ok (.ifCond .eq 63, 3) := by decide +kernel
theorem dX7_nextToken_131 : decode cX7_nextToken 131 = .ok (.aload_n 0, 1) := by decide +kernel
theorem dX7_nextToken_132 : decode cX7_nextToken 132 = .ok (.aload_n 0, 1) := by decide +kernel
theorem dX7_nextToken_133 : decode cX7_nextToken 133 = .ok (.getfield 58, 3) := by decide +kernel
theorem dX7_nextToken_136 : decode cX7_nextToken 136 = .ok (.aload_n 0, 1) := by decide +kernel
theorem dX7_nextToken_137 : decode cX7_nextToken 137 = .ok (.getfield 61, 3) := by decide +kernel
theorem dX7_nextToken_140 : decode cX7_nextToken 140 = .ok (.isub, 1) := by decide +kernel
theorem dX7_nextToken_141 : decode cX7_nextToken 141 = .ok (.bipush 9, 2) := by decide +kernel
theorem dX7_nextToken_143 : decode cX7_nextToken 143 = .ok (.if_icmp .ge 29, 3) := by decide +kernel
theorem dX7_nextToken_146 : decode cX7_nextToken 146 = .ok (.ldc2_w 76, 3) := by decide +kernel
theorem dX7_nextToken_149 : decode cX7_nextToken 149 = .ok (.aload_n 0, 1) := by decide +kernel
theorem dX7_nextToken_150 : decode cX7_nextToken 150 = .ok (.getfield 72, 3) := by decide +kernel
theorem dX7_nextToken_153 : decode cX7_nextToken 153 = .ok (.lmul, 1) := by decide +kernel
theorem dX7_nextToken_154 : decode cX7_nextToken 154 = .ok (.aload_n 0, 1) := by decide +kernel
theorem dX7_nextToken_155 : decode cX7_nextToken 155 = .ok (.getfield 16, 3) := by decide +kernel
theorem dX7_nextToken_158 : decode cX7_nextToken 158 = .ok (.aload_n 0, 1) := by decide +kernel
theorem dX7_nextToken_159 : decode cX7_nextToken 159 = .ok (.getfield 58, 3) := by decide +kernel
theorem dX7_nextToken_162 : decode cX7_nextToken 162 = .ok (.iaload, 1) := by decide +kernel
theorem dX7_nextToken_163 : decode cX7_nextToken 163 = .ok (.i2l, 1) := by decide +kernel
theorem dX7_nextToken_164 : decode cX7_nextToken 164 = .ok (.ladd, 1) := by decide +kernel
theorem dX7_nextToken_165 : decode cX7_nextToken 165 = .ok (.ldc2_w 78, 3) := by decide +kernel
theorem dX7_nextToken_168 : decode cX7_nextToken 168 = .ok (.lsub, 1) := by decide +kernel
theorem dX7_nextToken_169 : decode cX7_nextToken 169 = .ok (.goto 6, 3) := by decide +kernel
theorem dX7_nextToken_172 : decode cX7_nextToken 172 = .ok (.ldc2_w 80, 3) := by decide +kernel
theorem dX7_nextToken_175 : decode cX7_nextToken 175 = .ok (.putfield 72, 3) := by decide +kernel
theorem dX7_nextToken_178 : decode cX7_nextToken 178 = .ok (.aload_n 0, 1) := by decide +kernel
theorem dX7_nextToken_179 : decode cX7_nextToken 179 = .ok (.dup, 1) := by decide +kernel
theorem dX7_nextToken_180 : decode cX7_nextToken 180 = .ok (.getfield 58, 3) := by decide +kernel
theorem dX7_nextToken_183 : decode cX7_nextToken 183 = .ok (.iconst 1, 1) := by decide +kernel
theorem dX7_nextToken_184 : decode cX7_nextToken 184 = .ok (.iadd, 1) := by decide +kernel
theorem dX7_nextToken_185 : decode cX7_nextToken 185 = .ok (.putfield 58, 3) := by decide +kernel
theorem dX7_nextToken_188 : decode cX7_nextToken 188 = .ok (.goto (-87), 3) := by decide +kernel
theorem dX7_nextToken_191 : decode cX7_nextToken 191 = .ok (.aload_n 0, 1) := by decide +kernel
theorem dX7_nextToken_192 : decode cX7_nextToken 192 = .ok (.aload_n 0, 1) := by decide +kernel
theorem dX7_nextToken_193 : decode cX7_nextToken 193 = .ok (.getfield 58, 3) := by decide +kernel
theorem dX7_nextToken_196 : decode cX7_nextToken 196 = .ok (.aload_n 0, 1) := by decide +kernel
theorem dX7_nextToken_197 : decode cX7_nextToken 197 = .ok (.getfield 61, 3) := by decide +kernel
theorem dX7_nextToken_200 : decode cX7_nextToken 200 = .ok (.isub, 1) := by decide +kernel
theorem dX7_nextToken_201 : decode cX7_nextToken 201 = .ok (.bipush 9, 2) := by decide +kernel
theorem dX7_nextToken_203 : decode cX7_nextToken 203 = .ok (.if_icmp .le 9, 3) := by decide +kernel
theorem dX7_nextToken_206 : decode cX7_nextToken 206 = .ok (.ldc2_w 80, 3) := by decide +kernel
theorem dX7_nextToken_209 : decode cX7_nextToken 209 = .ok (.goto 7, 3) := by decide +kernel
theorem dX7_nextToken_212 : decode cX7_nextToken 212 = .ok (.aload_n 0, 1) := by decide +kernel
theorem dX7_nextToken_213 : decode cX7_nextToken 213 = .ok (.getfield 72, 3) := by decide +kernel
theorem dX7_nextToken_216 : decode cX7_nextToken 216 = .ok (.putfield 72, 3) := by decide +kernel
theorem dX7_nextToken_219 : decode cX7_nextToken 219 = .ok (.goto 175, 3) := by decide +kernel
theorem dX7_nextToken_222 : decode cX7_nextToken 222 = .ok (.aload_n 0, 1) := by decide +kernel
theorem dX7_nextToken_223 : decode cX7_nextToken 223 = .ok (.getfield 16, 3) := by decide +kernel
theorem dX7_nextToken_226 : decode cX7_nextToken 226 = .ok (.aload_n 0, 1) := by decide +kernel
theorem dX7_nextToken_227 : decode cX7_nextToken 227 = .ok (.getfield 58, 3) := by decide +kernel
theorem dX7_nextToken_230 : decode cX7_nextToken 230 = .ok (.iaload, 1) := by decide +kernel
theorem dX7_nextToken_231 : decode cX7_nextToken 231 = .ok (.bipush 48, 2) := by decide +kernel
theorem dX7_nextToken_233 : decode cX7_nextToken 233 = .ok (.bipush 57, 2) := by decide +kernel
theorem dX7_nextToken_235 : decode cX7_nextToken 235 = .ok (.invokestatic 41, 3) := by decide +kernel
theorem dX7_nextToken_238 : decode cX7_nextToken 238 = .ok (.ifCond .eq 119, 3) := by decide +kernel
theorem dX7_nextToken_241 : decode cX7_nextToken 241 = .ok (.aload_n 0, 1) := by decide +kernel
theorem dX7_nextToken_242 : decode cX7_nextToken 242 = .ok (.getfield 58, 3) := by decide +kernel
theorem dX7_nextToken_245 : decode cX7_nextToken 245 = .ok (.aload_n 0, 1) := by decide +kernel
theorem dX7_nextToken_246 : decode cX7_nextToken 246 = .ok (.getfield 53, 3) := by decide +kernel
theorem dX7_nextToken_249 : decode cX7_nextToken 249 = .ok (.if_icmp .ge 84, 3) := by decide +kernel
theorem dX7_nextToken_252 : decode cX7_nextToken 252 = .ok (.aload_n 0, 1) := by decide +kernel
theorem dX7_nextToken_253 : decode cX7_nextToken 253 = .ok (.getfield 16, 3) := by decide +kernel
theorem dX7_nextToken_256 : decode cX7_nextToken 256 = .ok (.aload_n 0, 1) := by decide +kernel
theorem dX7_nextToken_257 : decode cX7_nextToken 257 = .ok (.getfield 58, 3) := by decide +kernel
theorem dX7_nextToken_260 : decode cX7_nextToken 260 = .ok (.iaload, 1) := by decide +kernel
theorem dX7_nextToken_261 : decode cX7_nextToken 261 = .ok (.bipush 48, 2) := by decide +kernel
theorem dX7_nextToken_263 : decode cX7_nextToken 263 = .ok (.bipush 57, 2) := by decide +kernel
theorem dX7_nextToken_265 : decode cX7_nextToken 265 = .ok (.invokestatic 41, 3) := by decide +kernel
theorem dX7_nextToken_268 : decode cX7_nextToken 268 = .ok (.ifCond .eq 65, 3) := by decide +kernel
theorem dX7_nextToken_271 : decode cX7_nextToken 271 = .ok (.aload_n 0, 1) := by decide +kernel
theorem dX7_nextToken_272 : decode cX7_nextToken 272 = .ok (.aload_n 0, 1) := by decide +kernel
theorem dX7_nextToken_273 : decode cX7_nextToken 273 = .ok (.getfield 64, 3) := by decide +kernel
theorem dX7_nextToken_276 : decode cX7_nextToken 276 = .ok (.iconst 4, 1) := by decide +kernel
theorem dX7_nextToken_277 : decode cX7_nextToken 277 = .ok (.if_icmp .ge 26, 3) := by decide +kernel
theorem dX7_nextToken_280 : decode cX7_nextToken 280 = .ok (.bipush 10, 2) := by decide +kernel
theorem dX7_nextToken_282 : decode cX7_nextToken 282 = .ok (.aload_n 0, 1) := by decide +kernel
theorem dX7_nextToken_283 : decode cX7_nextToken 283 = .ok (.getfield 67, 3) := by decide +kernel
theorem dX7_nextToken_286 : decode cX7_nextToken 286 = .ok (.imul, 1) := by decide +kernel
theorem dX7_nextToken_287 : decode cX7_nextToken 287 = .ok (.aload_n 0, 1) := by decide +kernel
theorem dX7_nextToken_288 : decode cX7_nextToken 288 = .ok (.getfield 16, 3) := by decide +kernel
theorem dX7_nextToken_291 : decode cX7_nextToken 291 = .ok (.aload_n 0, 1) := by decide +kernel
theorem dX7_nextToken_292 : decode cX7_nextToken 292 = .ok (.getfield 58, 3) := by decide +kernel
theorem dX7_nextToken_295 : decode cX7_nextToken 295 = .ok (.iaload, 1) := by decide +kernel
theorem dX7_nextToken_296 : decode cX7_nextToken 296 = .ok (.iadd, 1) := by decide +kernel
theorem dX7_nextToken_297 : decode cX7_nextToken 297 = .ok (.bipush 48, 2) := by decide +kernel
theorem dX7_nextToken_299 : decode cX7_nextToken 299 = .ok (.isub, 1) := by decide +kernel
theorem dX7_nextToken_300 : decode cX7_nextToken 300 = .ok (.goto 7, 3) := by decide +kernel
theorem dX7_nextToken_303 : decode cX7_nextToken 303 = .ok (.aload_n 0, 1) := by decide +kernel
theorem dX7_nextToken_304 : decode cX7_nextToken 304 = .ok (.getfield 67, 3) := by decide +kernel
theorem dX7_nextToken_307 : decode cX7_nextToken 307 = .ok (.putfield 67, 3) := by decide +kernel
theorem dX7_nextToken_310 : decode cX7_nextToken 310 = .ok (.aload_n 0, 1) := by decide +kernel
theorem dX7_nextToken_311 : decode cX7_nextToken 311 = .ok (.dup, 1) := by decide +kernel
theorem dX7_nextToken_312 : decode cX7_nextToken 312 = .ok (.getfield 64, 3) := by decide +kernel
theorem dX7_nextToken_315 : decode cX7_nextToken 315 = .ok (.iconst 1, 1) := by decide +kernel
theorem dX7_nextToken_316 : decode cX7_nextToken 316 = .ok (.iadd, 1) := by decide +kernel
theorem dX7_nextToken_317 : decode cX7_nextToken 317 = .ok (.putfield 64, 3) := by decide +kernel
theorem dX7_nextToken_320 : decode cX7_nextToken 320 = .ok (.aload_n 0, 1) := by decide +kernel
theorem dX7_nextToken_321 : decode cX7_nextToken 321 = .ok (.dup, 1) := by decide +kernel
theorem dX7_nextToken_322 : decode cX7_nextToken 322 = .ok (.getfield 58, 3) := by decide +kernel
theorem dX7_nextToken_325 : decode cX7_nextToken 325 = .ok (.iconst 1, 1) := by decide +kernel
theorem dX7_nextToken_326 : decode cX7_nextToken 326 = .ok (.iadd, 1) := by decide +kernel
theorem dX7_nextToken_327 : decode cX7_nextToken 327 = .ok (.putfield 58, 3) := by decide +kernel
theorem dX7_nextToken_330 : decode cX7_nextToken 330 = .ok (.goto (-89), 3) := by decide +kernel
theorem dX7_nextToken_333 : decode cX7_nextToken 333 = .ok (.aload_n 0, 1) := by decide +kernel
theorem dX7_nextToken_334 : decode cX7_nextToken 334 = .ok (.aload_n 0, 1) := by decide +kernel
theorem dX7_nextToken_335 : decode cX7_nextToken 335 = .ok (.getfield 64, 3) := by decide +kernel
theorem dX7_nextToken_338 : decode cX7_nextToken 338 = .ok (.iconst 4, 1) := by decide +kernel
theorem dX7_nextToken_339 : decode cX7_nextToken 339 = .ok (.if_icmp .le 9, 3) := by decide +kernel
theorem dX7_nextToken_342 : decode cX7_nextToken 342 = .ok (.ldc2_w 80, 3) := by decide +kernel
theorem dX7_nextToken_345 : decode cX7_nextToken 345 = .ok (.goto 6, 3) := by decide +kernel
theorem dX7_nextToken_348 : decode cX7_nextToken 348 = .ok (.ldc2_w 82, 3) := by decide +kernel
theorem dX7_nextToken_351 : decode cX7_nextToken 351 = .ok (.putfield 72, 3) := by decide +kernel
theorem dX7_nextToken_354 : decode cX7_nextToken 354 = .ok (.goto 40, 3) := by decide +kernel
theorem dX7_nextToken_357 : decode cX7_nextToken 357 = .ok (.aload_n 0, 1) := by decide +kernel
theorem dX7_nextToken_358 : decode cX7_nextToken 358 = .ok (.aload_n 0, 1) := by decide +kernel
theorem dX7_nextToken_359 : decode cX7_nextToken 359 = .ok (.getfield 16, 3) := by decide +kernel
theorem dX7_nextToken_362 : decode cX7_nextToken 362 = .ok (.aload_n 0, 1) := by decide +kernel
theorem dX7_nextToken_363 : decode cX7_nextToken 363 = .ok (.getfield 58, 3) := by decide +kernel
theorem dX7_nextToken_366 : decode cX7_nextToken 366 = .ok (.iaload, 1) := by decide +kernel
theorem dX7_nextToken_367 : decode cX7_nextToken 367 = .ok (.bipush 59, 2) := by decide +kernel
theorem dX7_nextToken_369 : decode cX7_nextToken 369 = .ok (.if_icmp .ne 9, 3) := by decide +kernel
theorem dX7_nextToken_372 : decode cX7_nextToken 372 = .ok (.ldc2_w 84, 3) := by decide +kernel
theorem dX7_nextToken_375 : decode cX7_nextToken 375 = .ok (.goto 6, 3) := by decide +kernel
theorem dX7_nextToken_378 : decode cX7_nextToken 378 = .ok (.ldc2_w 80, 3) := by decide +kernel
theorem dX7_nextToken_381 : decode cX7_nextToken 381 = .ok (.putfield 72, 3) := by decide +kernel
theorem dX7_nextToken_384 : decode cX7_nextToken 384 = .ok (.aload_n 0, 1) := by decide +kernel
theorem dX7_nextToken_385 : decode cX7_nextToken 385 = .ok (.dup, 1) := by decide +kernel
theorem dX7_nextToken_386 : decode cX7_nextToken 386 = .ok (.getfield 58, 3) := by decide +kernel
theorem dX7_nextToken_389 : decode cX7_nextToken 389 = .ok (.iconst 1, 1) := by decide +kernel
theorem dX7_nextToken_390 : decode cX7_nextToken 390 = .ok (.iadd, 1) := by decide +kernel
theorem dX7_nextToken_391 : decode cX7_nextToken 391 = .ok (.putfield 58, 3) := by decide +kernel
theorem dX7_nextToken_394 : decode cX7_nextToken 394 = .ok (.return_, 1) := by decide +kernel
theorem dX7_fails_0 : decode cX7_fails 0 = .ok (.aload_n 0, 1) := by decide +kernel
theorem dX7_fails_1 : decode cX7_fails 1 = .ok (.aload_n 0, 1) := by decide +kernel
theorem dX7_fails_2 : decode cX7_fails 2 = .ok (.getfield 61, 3) := by decide +kernel
theorem dX7_fails_5 : decode cX7_fails 5 = .ok (.putfield 86, 3) := by decide +kernel
theorem dX7_fails_8 : decode cX7_fails 8 = .ok (.iconst 0, 1) := by decide +kernel
theorem dX7_fails_9 : decode cX7_fails 9 = .ok (.ireturn, 1) := by decide +kernel
set_option maxRecDepth 20000 in
theorem ggX7_isNumber_X7_nextToken : GoodIn wsX7_isNumber wsX7_nextToken := goodIn_r _ [9, 10, 11, 12, 13, 14, 3, 15, 1, 16, 17, 18, 2, 19, 20, 21, 8, 22, 28, 29, 30, 31, 32, 33, 34, 35, 36, 37, 38, 39, 40, 41, 42, 43, 44, 45, 46, 47, 48, 49, 50, 51, 52, 53] (by decide +kernel) (by decide +kernel)
set_option maxRecDepth 20000 in
theorem gX7_isNumber_X7_nextToken : GoodIn wsX7_isNumber (wsV RX7 89 RX7 yX7_nextToken wsX7_nextToken) := goodIn_app (goodIn_of _ (by decide +kernel)) ggX7_isNumber_X7_nextToken
set_option maxRecDepth 20000 in
theorem ggX7_isNumber_X7_in : GoodIn wsX7_isNumber wsX7_in := goodIn_r _ [22] (by decide +kernel) (by decide +kernel)
set_option maxRecDepth 20000 in
theorem gX7_isNumber_X7_in : GoodIn wsX7_isNumber (va_wsS RX7 41 yX7_in wsX7_in) := goodIn_app (goodIn_of _ (by decide +kernel)) ggX7_isNumber_X7_in
set_option maxRecDepth 20000 in
theorem ggX7_isNumber_X7_fails : GoodIn wsX7_isNumber wsX7_fails := goodIn_r _ [26, 13, 27, 28, 29, 30, 31, 32, 33, 34, 35, 36, 37, 38, 39, 40, 41, 42, 43, 44, 45, 46, 47, 48, 49, 50, 51, 52, 53] (by decide +kernel) (by decide +kernel)
set_option maxRecDepth 20000 in
theorem gX7_isNumber_X7_fails : GoodIn wsX7_isNumber (wsV RX7 92 RX7 yX7_fails wsX7_fails) := goodIn_app (goodIn_of _ (by decide +kernel)) ggX7_isNumber_X7_fails
theorem dX7_isNumber_0 : decode cX7_isNumber 0 = .ok (.aload_n 0, 1) := by decide +kernel
theorem dX7_isNumber_1 : decode cX7_isNumber 1 = .ok (.invokevirtual 89, 3) := by decide +kernel
theorem dX7_isNumber_4 : decode cX7_isNumber 4 = .ok (.aload_n 0, 1) := by decide +kernel
theorem dX7_isNumber_5 : decode cX7_isNumber 5 = .ok (.getfield 72, 3) := by decide +kernel
theorem dX7_isNumber_8 : decode cX7_isNumber 8 = .ok (.ldc2_w 82, 3) := by decide +kernel
theorem dX7_isNumber_11 : decode cX7_isNumber 11 = .ok (.lcmp, 1) := by decide +kernel
theorem dX7_isNumber_12 : decode cX7_isNumber 12 = .ok (.ifCond .ne 15, 3) := by decide +kernel
theorem dX7_isNumber_15 : decode cX7_isNumber 15 = .ok (.aload_n 0, 1) := by decide +kernel
theorem dX7_isNumber_16 : decode cX7_isNumber 16 = .ok (.getfield 67, 3) := by decide +kernel
theorem dX7_isNumber_19 : decode cX7_isNumber 19 = .ok (.iload_n 2, 1) := by decide +kernel
theorem dX7_isNumber_20 : decode cX7_isNumber 20 = .ok (.iload_n 3, 1) := by decide +kernel
theorem dX7_isNumber_21 : decode cX7_isNumber 21 = .ok (.invokestatic 41, 3) := by decide +kernel
theorem dX7_isNumber_24 : decode cX7_isNumber 24 = .ok (.ifCond .ne 8, 3) := by decide +kernel
theorem dX7_isNumber_27 : decode cX7_isNumber 27 = .ok (.aload_n 0, 1) := by decide +kernel
theorem dX7_isNumber_28 : decode cX7_isNumber 28 = .ok (.invokevirtual 92, 3) := by decide +kernel
theorem dX7_isNumber_31 : decode cX7_isNumber 31 = .ok (.ireturn, 1) := by decide +kernel
theorem dX7_isNumber_32 : decode cX7_isNumber 32 = .ok (.aload_n 0, 1) := by decide +kernel
theorem dX7_isNumber_33 : decode cX7_isNumber 33 = .ok (.getfield 19, 3) := by decide +kernel
theorem dX7_isNumber_36 : decode cX7_isNumber 36 = .ok (.iload_n 1, 1) := by decide +kernel
theorem dX7_isNumber_37 : decode cX7_isNumber 37 = .ok (.aload_n 0, 1) := by decide +kernel
theorem dX7_isNumber_38 : decode cX7_isNumber 38 = .ok (.getfield 67, 3) := by decide +kernel
theorem dX7_isNumber_41 : decode cX7_isNumber 41 = .ok (.iastore, 1) := by decide +kernel
theorem dX7_isNumber_42 : decode cX7_isNumber 42 = .ok (.iconst 1, 1) := by decide +kernel
theorem dX7_isNumber_43 : decode cX7_isNumber 43 = .ok (.ireturn, 1) := by decide +kernel
set_option maxRecDepth 20000 in
theorem ggX7_isGoing_X7_isNumber : GoodIn wsX7_isGoing wsX7_isNumber := goodIn_r _ [7, 8, 9, 10, 1, 11, 12, 13, 6, 14, 15, 16, 17, 18, 19, 20, 21, 22, 23, 24, 25, 26, 27, 28, 29, 30, 31, 32, 33, 34, 35, 36, 37, 38, 39, 40, 41, 42, 43, 44, 45, 46, 47, 48, 49, 50, 51, 52, 53, 54, 55, 56, 57, 58] (by decide +kernel) (by decide +kernel)
set_option maxRecDepth 20000 in
theorem gX7_isGoing_X7_isNumber : GoodIn wsX7_isGoing (wsV RX7 96 RX7 yX7_isNumber wsX7_isNumber) := goodIn_app (goodIn_of _ (by decide +kernel)) ggX7_isGoing_X7_isNumber
theorem dX7_isGoing_0 : decode cX7_isGoing 0 = .ok (.aload_n 0, 1) := by decide +kernel
theorem dX7_isGoing_1 : decode cX7_isGoing 1 = .ok (.iload_n 1, 1) := by decide +kernel
theorem dX7_isGoing_2 : decode cX7_isGoing 2 = .ok (.iconst 1, 1) := by decide +kernel
theorem dX7_isGoing_3 : decode cX7_isGoing 3 = .ok (.iadd, 1) := by decide +kernel
theorem dX7_isGoing_4 : decode cX7_isGoing 4 = .ok (.iconst 0, 1) := by decide +kernel
theorem dX7_isGoing_5 : decode cX7_isGoing 5 = .ok (.bipush 7, 2) := by decide +kernel
theorem dX7_isGoing_7 : decode cX7_isGoing 7 = .ok (.invokevirtual 96, 3) := by decide +kernel
theorem dX7_isGoing_10 : decode cX7_isGoing 10 = .ok (.ifCond .eq 70, 3) := by decide +kernel
theorem dX7_isGoing_13 : decode cX7_isGoing 13 = .ok (.aload_n 0, 1) := by decide +kernel
theorem dX7_isGoing_14 : decode cX7_isGoing 14 = .ok (.iload_n 1, 1) := by decide +kernel
theorem dX7_isGoing_15 : decode cX7_isGoing 15 = .ok (.iconst 2, 1) := by decide +kernel
theorem dX7_isGoing_16 : decode cX7_isGoing 16 = .ok (.iadd, 1) := by decide +kernel
theorem dX7_isGoing_17 : decode cX7_isGoing 17 = .ok (.iconst 0, 1) := by decide +kernel
theorem dX7_isGoing_18 : decode cX7_isGoing 18 = .ok (.sipush 4319, 3) := by decide +kernel
theorem dX7_isGoing_21 : decode cX7_isGoing 21 = .ok (.invokevirtual 96, 3) := by decide +kernel
theorem dX7_isGoing_24 : decode cX7_isGoing 24 = .ok (.ifCond .eq 56, 3) := by decide +kernel
theorem dX7_isGoing_27 : decode cX7_isGoing 27 = .ok (.aload_n 0, 1) := by decide +kernel
theorem dX7_isGoing_28 : decode cX7_isGoing 28 = .ok (.iload_n 1, 1) := by decide +kernel
theorem dX7_isGoing_29 : decode cX7_isGoing 29 = .ok (.iconst 3, 1) := by decide +kernel
theorem dX7_isGoing_30 : decode cX7_isGoing 30 = .ok (.iadd, 1) := by decide +kernel
theorem dX7_isGoing_31 : decode cX7_isGoing 31 = .ok (.iconst 0, 1) := by decide +kernel
theorem dX7_isGoing_32 : decode cX7_isGoing 32 = .ok (.sipush 719, 3) := by decide +kernel
theorem dX7_isGoing_35 : decode cX7_isGoing 35 = .ok (.invokevirtual 96, 3) := by decide +kernel
theorem dX7_isGoing_38 : decode cX7_isGoing 38 = .ok (.ifCond .eq 42, 3) := by decide +kernel
theorem dX7_isGoing_41 : decode cX7_isGoing 41 = .ok (.aload_n 0, 1) := by decide +kernel
theorem dX7_isGoing_42 : decode cX7_isGoing 42 = .ok (.iload_n 1, 1) := by decide +kernel
theorem dX7_isGoing_43 : decode cX7_isGoing 43 = .ok (.iconst 4, 1) := by decide +kernel
theorem dX7_isGoing_44 : decode cX7_isGoing 44 = .ok (.iadd, 1) := by decide +kernel
theorem dX7_isGoing_45 : decode cX7_isGoing 45 = .ok (.iconst 0, 1) := by decide +kernel
theorem dX7_isGoing_46 : decode cX7_isGoing 46 = .ok (.sipush 240, 3) := by decide +kernel
theorem dX7_isGoing_49 : decode cX7_isGoing 49 = .ok (.invokevirtual 96, 3) := by decide +kernel
theorem dX7_isGoing_52 : decode cX7_isGoing 52 = .ok (.ifCond .eq 28, 3) := by decide +kernel
theorem dX7_isGoing_55 : decode cX7_isGoing 55 = .ok (.aload_n 0, 1) := by decide +kernel
theorem dX7_isGoing_56 : decode cX7_isGoing 56 = .ok (.iload_n 1, 1) := by decide +kernel
theorem dX7_isGoing_57 : decode cX7_isGoing 57 = .ok (.iconst 5, 1) := by decide +kernel
theorem dX7_isGoing_58 : decode cX7_isGoing 58 = .ok (.iadd, 1) := by decide +kernel
theorem dX7_isGoing_59 : decode cX7_isGoing 59 = .ok (.aload_n 0, 1) := by decide +kernel
theorem dX7_isGoing_60 : decode cX7_isGoing 60 = .ok (.getfield 19, 3) := by decide +kernel
theorem dX7_isGoing_63 : decode cX7_isGoing 63 = .ok (.iload_n 1, 1) := by decide +kernel
theorem dX7_isGoing_64 : decode cX7_isGoing 64 = .ok (.iconst 4, 1) := by decide +kernel
theorem dX7_isGoing_65 : decode cX7_isGoing 65 = .ok (.iadd, 1) := by decide +kernel
theorem dX7_isGoing_66 : decode cX7_isGoing 66 = .ok (.iaload, 1) := by decide +kernel
theorem dX7_isGoing_67 : decode cX7_isGoing 67 = .ok (.sipush 240, 3) := by decide +kernel
theorem dX7_isGoing_70 : decode cX7_isGoing 70 = .ok (.invokevirtual 96, 3) := by decide +kernel
theorem dX7_isGoing_73 : decode cX7_isGoing 73 = .ok (.ifCond .eq 7, 3) := by decide +kernel
theorem dX7_isGoing_76 : decode cX7_isGoing 76 = .ok (.iconst 1, 1) := by decide +kernel
theorem dX7_isGoing_77 : decode cX7_isGoing 77 = .ok (.goto 4, 3) := by decide +kernel
theorem dX7_isGoing_80 : decode cX7_isGoing 80 = .ok (.iconst 0, 1) := by decide +kernel
theorem dX7_isGoing_81 : decode cX7_isGoing 81 = .ok (.istore_n 2, 1) := by decide +kernel
theorem dX7_isGoing_82 : decode cX7_isGoing 82 = .ok (.aload_n 0, 1) := by decide +kernel
theorem dX7_isGoing_83 : decode cX7_isGoing 83 = .ok (.iload_n 2, 1) := by decide +kernel
theorem dX7_isGoing_84 : decode cX7_isGoing 84 = .ok (.ifCond .eq 21, 3) := by decide +kernel
theorem dX7_isGoing_87 : decode cX7_isGoing 87 = .ok (.aload_n 0, 1) := by decide +kernel
theorem dX7_isGoing_88 : decode cX7_isGoing 88 = .ok (.getfield 99, 3) := by decide +kernel
theorem dX7_isGoing_91 : decode cX7_isGoing 91 = .ok (.iconst 1, 1) := by decide +kernel
theorem dX7_isGoing_92 : decode cX7_isGoing 92 = .ok (.aload_n 0, 1) := by decide +kernel
theorem dX7_isGoing_93 : decode cX7_isGoing 93 = .ok (.getfield 19, 3) := by decide +kernel
theorem dX7_isGoing_96 : decode cX7_isGoing 96 = .ok (.iload_n 1, 1) := by decide +kernel
theorem dX7_isGoing_97 : decode cX7_isGoing 97 = .ok (.iconst 1, 1) := by decide +kernel
theorem dX7_isGoing_98 : decode cX7_isGoing 98 = .ok (.iadd, 1) := by decide +kernel
theorem dX7_isGoing_99 : decode cX7_isGoing 99 = .ok (.iaload, 1) := by decide +kernel
theorem dX7_isGoing_100 : decode cX7_isGoing 100 = .ok (.ishl, 1) := by decide +kernel
theorem dX7_isGoing_101 : decode cX7_isGoing 101 = .ok (.ior, 1) := by decide +kernel
theorem dX7_isGoing_102 : decode cX7_isGoing 102 = .ok (.goto 7, 3) := by decide +kernel
theorem dX7_isGoing_105 : decode cX7_isGoing 105 = .ok (.aload_n 0, 1) := by decide +kernel
theorem dX7_isGoing_106 : decode cX7_isGoing 106 = .ok (.getfield 99, 3) := by decide +kernel
theorem dX7_isGoing_109 : decode cX7_isGoing 109 = .ok (.putfield 99, 3) := by decide +kernel
theorem dX7_isGoing_112 : decode cX7_isGoing 112 = .ok (.iload_n 2, 1) := by decide +kernel
theorem dX7_isGoing_113 : decode cX7_isGoing 113 = .ok (.ireturn, 1) := by decide +kernel
set_option maxRecDepth 20000 in
theorem ggX7_isStopped_X7_isNumber : GoodIn wsX7_isStopped wsX7_isNumber := goodIn_r _ [7, 8, 9, 10, 2, 11, 12, 13, 6, 14, 15, 16, 17, 18, 19, 20, 21, 22, 23, 24, 25, 26, 27, 28, 29, 30, 31, 32, 33, 34, 35, 36, 37, 38, 39, 40, 41, 42, 43, 44, 45, 46, 47, 48, 49, 50, 51, 52, 53, 54, 55, 56, 57, 58] (by decide +kernel) (by decide +kernel)
set_option maxRecDepth 20000 in
theorem gX7_isStopped_X7_isNumber : GoodIn wsX7_isStopped (wsV RX7 96 RX7 yX7_isNumber wsX7_isNumber) := goodIn_app (goodIn_of _ (by decide +kernel)) ggX7_isStopped_X7_isNumber
theorem dX7_isStopped_0 : decode cX7_isStopped 0 = .ok (.aload_n 0, 1) := by decide +kernel
theorem dX7_isStopped_1 : decode cX7_isStopped 1 = .ok (.iload_n 1, 1) := by decide +kernel
theorem dX7_isStopped_2 : decode cX7_isStopped 2 = .ok (.iconst 1, 1) := by decide +kernel
theorem dX7_isStopped_3 : decode cX7_isStopped 3 = .ok (.iadd, 1) := by decide +kernel
theorem dX7_isStopped_4 : decode cX7_isStopped 4 = .ok (.iconst 0, 1) := by decide +kernel
theorem dX7_isStopped_5 : decode cX7_isStopped 5 = .ok (.bipush 7, 2) := by decide +kernel
theorem dX7_isStopped_7 : decode cX7_isStopped 7 = .ok (.invokevirtual 96, 3) := by decide +kernel
theorem dX7_isStopped_10 : decode cX7_isStopped 10 = .ok (.ifCond .eq 21, 3) := by decide +kernel
theorem dX7_isStopped_13 : decode cX7_isStopped 13 = .ok (.aload_n 0, 1) := by decide +kernel
theorem dX7_isStopped_14 : decode cX7_isStopped 14 = .ok (.iload_n 1, 1) := by decide +kernel
theorem dX7_isStopped_15 : decode cX7_isStopped 15 = .ok (.iconst 3, 1) := by decide +kernel
theorem dX7_isStopped_16 : decode cX7_isStopped 16 = .ok (.iadd, 1) := by decide +kernel
theorem dX7_isStopped_17 : decode cX7_isStopped 17 = .ok (.iconst 0, 1) := by decide +kernel
theorem dX7_isStopped_18 : decode cX7_isStopped 18 = .ok (.sipush 719, 3) := by decide +kernel
theorem dX7_isStopped_21 : decode cX7_isStopped 21 = .ok (.invokevirtual 96, 3) := by decide +kernel
theorem dX7_isStopped_24 : decode cX7_isStopped 24 = .ok (.ifCond .eq 7, 3) := by decide +kernel
theorem dX7_isStopped_27 : decode cX7_isStopped 27 = .ok (.iconst 1, 1) := by decide +kernel
theorem dX7_isStopped_28 : decode cX7_isStopped 28 = .ok (.goto 4, 3) := by decide +kernel
theorem dX7_isStopped_31 : decode cX7_isStopped 31 = .ok (.iconst 0, 1) := by decide +kernel
theorem dX7_isStopped_32 : decode cX7_isStopped 32 = .ok (.istore_n 2, 1) := by decide +kernel
theorem dX7_isStopped_33 : decode cX7_isStopped 33 = .ok (.aload_n 0, 1) := by decide +kernel
theorem dX7_isStopped_34 : decode cX7_isStopped 34 = .ok (.iload_n 2, 1) := by decide +kernel
theorem dX7_isStopped_35 : decode cX7_isStopped 35 = .ok (.ifCond .eq 21, 3) := by decide +kernel
theorem dX7_isStopped_38 : decode cX7_isStopped 38 = .ok (.aload_n 0, 1) := by decide +kernel
theorem dX7_isStopped_39 : decode cX7_isStopped 39 = .ok (.getfield 99, 3) := by decide +kernel
theorem dX7_isStopped_42 : decode cX7_isStopped 42 = .ok (.iconst 1, 1) := by decide +kernel
theorem dX7_isStopped_43 : decode cX7_isStopped 43 = .ok (.aload_n 0, 1) := by decide +kernel
theorem dX7_isStopped_44 : decode cX7_isStopped 44 = .ok (.getfield 19, 3) := by decide +kernel
theorem dX7_isStopped_47 : decode cX7_isStopped 47 = .ok (.iload_n 1, 1) := by decide +kernel
theorem dX7_isStopped_48 : decode cX7_isStopped 48 = .ok (.iconst 1, 1) := by decide +kernel
theorem dX7_isStopped_49 : decode cX7_isStopped 49 = .ok (.iadd, 1) := by decide +kernel
theorem dX7_isStopped_50 : decode cX7_isStopped 50 = .ok (.iaload, 1) := by decide +kernel
theorem dX7_isStopped_51 : decode cX7_isStopped 51 = .ok (.ishl, 1) := by decide +kernel
theorem dX7_isStopped_52 : decode cX7_isStopped 52 = .ok (.ior, 1) := by decide +kernel
theorem dX7_isStopped_53 : decode cX7_isStopped 53 = .ok (.goto 7, 3) := by decide +kernel
theorem dX7_isStopped_56 : decode cX7_isStopped 56 = .ok (.aload_n 0, 1) := by decide +kernel
theorem dX7_isStopped_57 : decode cX7_isStopped 57 = .ok (.getfield 99, 3) := by decide +kernel
theorem dX7_isStopped_60 : decode cX7_isStopped 60 = .ok (.putfield 99, 3) := by decide +kernel
theorem dX7_isStopped_63 : decode cX7_isStopped 63 = .ok (.iload_n 2, 1) := by decide +kernel
theorem dX7_isStopped_64 : decode cX7_isStopped 64 = .ok (.ireturn, 1) := by decide +kernel
set_option maxRecDepth 20000 in
theorem ggX7_isNow_X7_isNumber : GoodIn wsX7_isNow wsX7_isNumber := goodIn_r _ [7, 8, 9, 10, 2, 11, 12, 13, 6, 14, 15, 16, 17, 18, 19, 20, 21, 22, 23, 24, 25, 26, 27, 28, 29, 30, 31, 32, 36, 37, 38, 39, 40, 41, 42, 43, 44, 45, 46, 47, 48, 49, 50, 51, 52, 53, 54, 55, 56, 57, 58, 59, 60, 61] (by decide +kernel) (by decide +kernel)
set_option maxRecDepth 20000 in
theorem gX7_isNow_X7_isNumber : GoodIn wsX7_isNow (wsV RX7 96 RX7 yX7_isNumber wsX7_isNumber) := goodIn_app (goodIn_of _ (by decide +kernel)) ggX7_isNow_X7_isNumber
set_option maxRecDepth 20000 in
theorem ggX7_isNow_X7_has : GoodIn wsX7_isNow wsX7_has := goodIn_r _ [35] (by decide +kernel) (by decide +kernel)
set_option maxRecDepth 20000 in
theorem gX7_isNow_X7_has : GoodIn wsX7_isNow (va_wsS RX7 49 yX7_has wsX7_has) := goodIn_app (goodIn_of _ (by decide +kernel)) ggX7_isNow_X7_has
set_option maxRecDepth 20000 in
theorem ggX7_isNow_X7_fails : GoodIn wsX7_isNow wsX7_fails := goodIn_r _ [31, 18, 32, 36, 37, 38, 39, 40, 41, 42, 43, 44, 45, 46, 47, 48, 49, 50, 51, 52, 53, 54, 55, 56, 57, 58, 59, 60, 61] (by decide +kernel) (by decide +kernel)
set_option maxRecDepth 20000 in
theorem gX7_isNow_X7_fails : GoodIn wsX7_isNow (wsV RX7 92 RX7 yX7_fails wsX7_fails) := goodIn_app (goodIn_of _ (by decide +kernel)) ggX7_isNow_X7_fails
theorem dX7_isNow_0 : decode cX7_isNow 0 = .ok (.aload_n 0, 1) := by decide +kernel
theorem dX7_isNow_1 : decode cX7_isNow 1 = .ok (.iload_n 1, 1) := by decide +kernel
theorem dX7_isNow_2 : decode cX7_isNow 2 = .ok (.iconst 1, 1) := by decide +kernel
theorem dX7_isNow_3 : decode cX7_isNow 3 = .ok (.iadd, 1) := by decide +kernel
theorem dX7_isNow_4 : decode cX7_isNow 4 = .ok (.iconst 0, 1) := by decide +kernel
theorem dX7_isNow_5 : decode cX7_isNow 5 = .ok (.bipush 7, 2) := by decide +kernel
theorem dX7_isNow_7 : decode cX7_isNow 7 = .ok (.invokevirtual 96, 3) := by decide +kernel
theorem dX7_isNow_10 : decode cX7_isNow 10 = .ok (.ifCond .ne 5, 3) := by decide +kernel
theorem dX7_isNow_13 : decode cX7_isNow 13 = .ok (.iconst 0, 1) := by decide +kernel
theorem dX7_isNow_14 : decode cX7_isNow 14 = .ok (.ireturn, 1) := by decide +kernel
theorem dX7_isNow_15 : decode cX7_isNow 15 = .ok (.aload_n 0, 1) := by decide +kernel
theorem dX7_isNow_16 : decode cX7_isNow 16 = .ok (.getfield 99, 3) := by decide +kernel
theorem dX7_isNow_19 : decode cX7_isNow 19 = .ok (.aload_n 0, 1) := by decide +kernel
theorem dX7_isNow_20 : decode cX7_isNow 20 = .ok (.getfield 19, 3) := by decide +kernel
theorem dX7_isNow_23 : decode cX7_isNow 23 = .ok (.iload_n 1, 1) := by decide +kernel
theorem dX7_isNow_24 : decode cX7_isNow 24 = .ok (.iconst 1, 1) := by decide +kernel
theorem dX7_isNow_25 : decode cX7_isNow 25 = .ok (.iadd, 1) := by decide +kernel
theorem dX7_isNow_26 : decode cX7_isNow 26 = .ok (.iaload, 1) := by decide +kernel
theorem dX7_isNow_27 : decode cX7_isNow 27 = .ok (.invokestatic 49, 3) := by decide +kernel
theorem dX7_isNow_30 : decode cX7_isNow 30 = .ok (.ifCond .eq 17, 3) := by decide +kernel
theorem dX7_isNow_33 : decode cX7_isNow 33 = .ok (.aload_n 0, 1) := by decide +kernel
theorem dX7_isNow_34 : decode cX7_isNow 34 = .ok (.iload_n 1, 1) := by decide +kernel
theorem dX7_isNow_35 : decode cX7_isNow 35 = .ok (.iconst 2, 1) := by decide +kernel
theorem dX7_isNow_36 : decode cX7_isNow 36 = .ok (.iadd, 1) := by decide +kernel
theorem dX7_isNow_37 : decode cX7_isNow 37 = .ok (.iconst 0, 1) := by decide +kernel
theorem dX7_isNow_38 : decode cX7_isNow 38 = .ok (.sipush 719, 3) := by decide +kernel
theorem dX7_isNow_41 : decode cX7_isNow 41 = .ok (.invokevirtual 96, 3) := by decide +kernel
theorem dX7_isNow_44 : decode cX7_isNow 44 = .ok (.goto 7, 3) := by decide +kernel
theorem dX7_isNow_47 : decode cX7_isNow 47 = .ok (.aload_n 0, 1) := by decide +kernel
theorem dX7_isNow_48 : decode cX7_isNow 48 = .ok (.invokevirtual 92, 3) := by decide +kernel
theorem dX7_isNow_51 : decode cX7_isNow 51 = .ok (.ireturn, 1) := by decide +kernel
set_option maxRecDepth 20000 in
theorem ggX7_isGone_X7_isNumber : GoodIn wsX7_isGone wsX7_isNumber := goodIn_r _ [7, 8, 9, 10, 2, 11, 12, 13, 6, 14, 15, 16, 17, 18, 19, 20, 21, 22, 23, 24, 25, 26, 27, 28, 29, 30, 31, 32, 33, 34, 35, 36, 37, 38, 39, 40, 41, 42, 43, 44, 45, 46, 47, 48, 49, 50, 51, 52, 53, 54, 55, 56, 57, 58] (by decide +kernel) (by decide +kernel)
set_option maxRecDepth 20000 in
theorem gX7_isGone_X7_isNumber : GoodIn wsX7_isGone (wsV RX7 96 RX7 yX7_isNumber wsX7_isNumber) := goodIn_app (goodIn_of _ (by decide +kernel)) ggX7_isGone_X7_isNumber
theorem dX7_isGone_0 : decode cX7_isGone 0 = .ok (.aload_n 0, 1) := by decide +kernel
theorem dX7_isGone_1 : decode cX7_isGone 1 = .ok (.iload_n 1, 1) := by decide +kernel
theorem dX7_isGone_2 : decode cX7_isGone 2 = .ok (.iconst 1, 1) := by decide +kernel
theorem dX7_isGone_3 : decode cX7_isGone 3 = .ok (.iadd, 1) := by decide +kernel
theorem dX7_isGone_4 : decode cX7_isGone 4 = .ok (.iconst 0, 1) := by decide +kernel
theorem dX7_isGone_5 : decode cX7_isGone 5 = .ok (.bipush 7, 2) := by decide +kernel
theorem dX7_isGone_7 : decode cX7_isGone 7 = .ok (.invokevirtual 96, 3) := by decide +kernel
theorem dX7_isGone_10 : decode cX7_isGone 10 = .ok (.istore_n 2, 1) := by decide +kernel
theorem dX7_isGone_11 : decode cX7_isGone 11 = .ok (.aload_n 0, 1) := by decide +kernel
theorem dX7_isGone_12 : decode cX7_isGone 12 = .ok (.iload_n 2, 1) := by decide +kernel
theorem dX7_isGone_13 : decode cX7_isGone 13 = .ok (.ifCond .eq 23, 3) := by decide +kernel
theorem dX7_isGone_16 : decode cX7_isGone 16 = .ok (.aload_n 0, 1) := by decide +kernel
theorem dX7_isGone_17 : decode cX7_isGone 17 = .ok (.getfield 99, 3) := by decide +kernel
theorem dX7_isGone_20 : decode cX7_isGone 20 = .ok (.iconst 1, 1) := by decide +kernel
theorem dX7_isGone_21 : decode cX7_isGone 21 = .ok (.aload_n 0, 1) := by decide +kernel
theorem dX7_isGone_22 : decode cX7_isGone 22 = .ok (.getfield 19, 3) := by decide +kernel
theorem dX7_isGone_25 : decode cX7_isGone 25 = .ok (.iload_n 1, 1) := by decide +kernel
theorem dX7_isGone_26 : decode cX7_isGone 26 = .ok (.iconst 1, 1) := by decide +kernel
theorem dX7_isGone_27 : decode cX7_isGone 27 = .ok (.iadd, 1) := by decide +kernel
theorem dX7_isGone_28 : decode cX7_isGone 28 = .ok (.iaload, 1) := by decide +kernel
theorem dX7_isGone_29 : decode cX7_isGone 29 = .ok (.ishl, 1) := by decide +kernel
theorem dX7_isGone_30 : decode cX7_isGone 30 = .ok (.iconst (-1), 1) := by decide +kernel
theorem dX7_isGone_31 : decode cX7_isGone 31 = .ok (.ixor, 1) := by decide +kernel
theorem dX7_isGone_32 : decode cX7_isGone 32 = .ok (.iand, 1) := by decide +kernel
theorem dX7_isGone_33 : decode cX7_isGone 33 = .ok (.goto 7, 3) := by decide +kernel
theorem dX7_isGone_36 : decode cX7_isGone 36 = .ok (.aload_n 0, 1) := by decide +kernel
theorem dX7_isGone_37 : decode cX7_isGone 37 = .ok (.getfield 99, 3) := by decide +kernel
theorem dX7_isGone_40 : decode cX7_isGone 40 = .ok (.putfield 99, 3) := by decide +kernel
theorem dX7_isGone_43 : decode cX7_isGone 43 = .ok (.iload_n 2, 1) := by decide +kernel
theorem dX7_isGone_44 : decode cX7_isGone 44 = .ok (.ireturn, 1) := by decide +kernel
set_option maxRecDepth 20000 in
theorem ggX7_isLine_X7_nextToken : GoodIn wsX7_isLine wsX7_nextToken := goodIn_r _ [13, 14, 15, 16, 17, 18, 19, 20, 2, 21, 22, 23, 24, 25, 26, 27, 12, 28, 58, 59, 60, 61, 62, 63, 64, 65, 66, 67, 68, 69, 70, 71, 72, 73, 74, 75, 76, 77, 78, 79, 80, 81, 82, 83] (by decide +kernel) (by decide +kernel)
set_option maxRecDepth 20000 in
theorem gX7_isLine_X7_nextToken : GoodIn wsX7_isLine (wsV RX7 89 RX7 yX7_nextToken wsX7_nextToken) := goodIn_app (goodIn_of _ (by decide +kernel)) ggX7_isLine_X7_nextToken
set_option maxRecDepth 20000 in
theorem ggX7_isLine_X7_isGoing : GoodIn wsX7_isLine wsX7_isGoing := goodIn_r _ [32, 1, 33, 34, 35, 36, 12, 37, 2, 24, 19, 9, 10, 11, 13, 14, 15, 16, 17, 18, 20, 21, 22, 23, 25, 26, 27, 28, 38, 39, 40, 41, 42, 58, 59, 60, 61, 62, 63, 64, 65, 66, 67, 68, 69, 70, 71, 72, 73, 74, 75, 76, 77, 78, 79, 80, 81, 82, 83] (by decide +kernel) (by decide +kernel)
set_option maxRecDepth 20000 in
theorem gX7_isLine_X7_isGoing : GoodIn wsX7_isLine (wsV RX7 114 RX7 yX7_isGoing wsX7_isGoing) := goodIn_app (goodIn_of _ (by decide +kernel)) ggX7_isLine_X7_isGoing
set_option maxRecDepth 20000 in
theorem ggX7_isLine_X7_isStopped : GoodIn wsX7_isLine wsX7_isStopped := goodIn_r _ [46, 33, 1, 34, 35, 36, 12, 37, 2, 24, 19, 9, 10, 11, 13, 14, 15, 16, 17, 18, 20, 21, 22, 23, 25, 26, 27, 28, 38, 39, 40, 41, 42, 58, 59, 60, 61, 62, 63, 64, 65, 66, 67, 68, 69, 70, 71, 72, 73, 74, 75, 76, 77, 78, 79, 80, 81, 82, 83] (by decide +kernel) (by decide +kernel)
set_option maxRecDepth 20000 in
theorem gX7_isLine_X7_isStopped : GoodIn wsX7_isLine (wsV RX7 118 RX7 yX7_isStopped wsX7_isStopped) := goodIn_app (goodIn_of _ (by decide +kernel)) ggX7_isLine_X7_isStopped
set_option maxRecDepth 20000 in
theorem ggX7_isLine_X7_isGone : GoodIn wsX7_isLine wsX7_isGone := goodIn_r _ [50, 33, 1, 34, 35, 36, 12, 37, 2, 24, 19, 9, 10, 11, 13, 14, 15, 16, 17, 18, 20, 21, 22, 23, 25, 26, 27, 28, 38, 39, 40, 41, 42, 58, 59, 60, 61, 62, 63, 64, 65, 66, 67, 68, 69, 70, 71, 72, 73, 74, 75, 76, 77, 78, 79, 80, 81, 82, 83] (by decide +kernel) (by decide +kernel)
set_option maxRecDepth 20000 in
theorem gX7_isLine_X7_isGone : GoodIn wsX7_isLine (wsV RX7 121 RX7 yX7_isGone wsX7_isGone) := goodIn_app (goodIn_of _ (by decide +kernel)) ggX7_isLine_X7_isGone
set_option maxRecDepth 20000 in
theorem ggX7_isLine_X7_isNow : GoodIn wsX7_isLine wsX7_isNow := goodIn_r _ [54, 33, 1, 34, 35, 36, 12, 37, 2, 24, 19, 9, 10, 11, 13, 14, 15, 16, 17, 18, 20, 21, 22, 23, 25, 26, 27, 28, 38, 39, 40, 41, 42, 55, 56, 57, 58, 59, 60, 61, 62, 63, 64, 65, 66, 67, 68, 69, 70, 71, 72, 73, 74, 75, 76, 77, 78, 79, 80, 81, 82, 83] (by decide +kernel) (by decide +kernel)
set_option maxRecDepth 20000 in
theorem gX7_isLine_X7_isNow : GoodIn wsX7_isLine (wsV RX7 124 RX7 yX7_isNow wsX7_isNow) := goodIn_app (goodIn_of _ (by decide +kernel)) ggX7_isLine_X7_isNow
set_option maxRecDepth 20000 in
theorem ggX7_isLine_X7_fails : GoodIn wsX7_isLine wsX7_fails := goodIn_r _ [41, 17, 42, 58, 59, 60, 61, 62, 63, 64, 65, 66, 67, 68, 69, 70, 71, 72, 73, 74, 75, 76, 77, 78, 79, 80, 81, 82, 83] (by decide +kernel) (by decide +kernel)
set_option maxRecDepth 20000 in
theorem gX7_isLine_X7_fails : GoodIn wsX7_isLine (wsV RX7 92 RX7 yX7_fails wsX7_fails) := goodIn_app (goodIn_of _ (by decide +kernel)) ggX7_isLine_X7_fails
theorem dX7_isLine_0 : decode cX7_isLine 0 = .ok (.aload_n 0, 1) := by decide +kernel
theorem dX7_isLine_1 : decode cX7_isLine 1 = .ok (.invokevirtual 89, 3) := by decide +kernel
theorem dX7_isLine_4 : decode cX7_isLine 4 = .ok (.aload_n 0, 1) := by decide +kernel
theorem dX7_isLine_5 : decode cX7_isLine 5 = .ok (.getfield 19, 3) := by decide +kernel
theorem dX7_isLine_8 : decode cX7_isLine 8 = .ok (.iload_n 1, 1) := by decide +kernel
theorem dX7_isLine_9 : decode cX7_isLine 9 = .ok (.aload_n 0, 1) := by decide +kernel
theorem dX7_isLine_10 : decode cX7_isLine 10 = .ok (.getfield 72, 3) := by decide +kernel
theorem dX7_isLine_13 : decode cX7_isLine 13 = .ok (.ldc2_w 102, 3) := by decide +kernel
theorem dX7_isLine_16 : decode cX7_isLine 16 = .ok (.lcmp, 1) := by decide +kernel
theorem dX7_isLine_17 : decode cX7_isLine 17 = .ok (.ifCond .ne 7, 3) := by decide +kernel
theorem dX7_isLine_20 : decode cX7_isLine 20 = .ok (.iconst 0, 1) := by decide +kernel
theorem dX7_isLine_21 : decode cX7_isLine 21 = .ok (.goto 79, 3) := by decide +kernel
theorem dX7_isLine_24 : decode cX7_isLine 24 = .ok (.aload_n 0, 1) := by decide +kernel
theorem dX7_isLine_25 : decode cX7_isLine 25 = .ok (.getfield 72, 3) := by decide +kernel
theorem dX7_isLine_28 : decode cX7_isLine 28 = .ok (.ldc2_w 104, 3) := by decide +kernel
theorem dX7_isLine_31 : decode cX7_isLine 31 = .ok (.lcmp, 1) := by decide +kernel
theorem dX7_isLine_32 : decode cX7_isLine 32 = .ok (.ifCond .ne 7, 3) := by decide +kernel
theorem dX7_isLine_35 : decode cX7_isLine 35 = .ok (.iconst 1, 1) := by decide +kernel
theorem dX7_isLine_36 : decode cX7_isLine 36 = .ok (.goto 64, 3) := by decide +kernel
theorem dX7_isLine_39 : decode cX7_isLine 39 = .ok (.aload_n 0, 1) := by decide +kernel
theorem dX7_isLine_40 : decode cX7_isLine 40 = .ok (.getfield 72, 3) := by decide +kernel
theorem dX7_isLine_43 : decode cX7_isLine 43 = .ok (.ldc2_w 106, 3) := by decide +kernel
theorem dX7_isLine_46 : decode cX7_isLine 46 = .ok (.lcmp, 1) := by decide +kernel
theorem dX7_isLine_47 : decode cX7_isLine 47 = .ok (.ifCond .ne 7, 3) := by decide +kernel
theorem dX7_isLine_50 : decode cX7_isLine 50 = .ok (.iconst 2, 1) := by decide +kernel
theorem dX7_isLine_51 : decode cX7_isLine 51 = .ok (.goto 49, 3) := by decide +kernel
theorem dX7_isLine_54 : decode cX7_isLine 54 = .ok (.aload_n 0, 1) := by decide +kernel
theorem dX7_isLine_55 : decode cX7_isLine 55 = .ok (.getfield 72, 3) := by decide +kernel
theorem dX7_isLine_58 : decode cX7_isLine 58 = .ok (.ldc2_w 108, 3) := by decide +kernel
theorem dX7_isLine_61 : decode cX7_isLine 61 = .ok (.lcmp, 1) := by decide +kernel
theorem dX7_isLine_62 : decode cX7_isLine 62 = .ok (.ifCond .ne 7, 3) := by decide +kernel
theorem dX7_isLine_65 : decode cX7_isLine 65 = .ok (.iconst 3, 1) := by decide +kernel
theorem dX7_isLine_66 : decode cX7_isLine 66 = .ok (.goto 34, 3) := by decide +kernel
theorem dX7_isLine_69 : decode cX7_isLine 69 = .ok (.aload_n 0, 1) := by decide +kernel
theorem dX7_isLine_70 : decode cX7_isLine 70 = .ok (.getfield 72, 3) := by decide +kernel
theorem dX7_isLine_73 : decode cX7_isLine 73 = .ok (.ldc2_w 110, 3) := by decide +kernel
theorem dX7_isLine_76 : decode cX7_isLine 76 = .ok (.lcmp, 1) := by decide +kernel
theorem dX7_isLine_77 : decode cX7_isLine 77 = .ok (.ifCond .ne 7, 3) := by decide +kernel
theorem dX7_isLine_80 : decode cX7_isLine 80 = .ok (.iconst 4, 1) := by decide +kernel
theorem dX7_isLine_81 : decode cX7_isLine 81 = .ok (.goto 19, 3) := by decide +kernel
theorem dX7_isLine_84 : decode cX7_isLine 84 = .ok (.aload_n 0, 1) := by decide +kernel
theorem dX7_isLine_85 : decode cX7_isLine 85 = .ok (.getfield 72, 3) := by decide +kernel
theorem dX7_isLine_88 : decode cX7_isLine 88 = .ok (.ldc2_w 112, 3) := by decide +kernel
theorem dX7_isLine_91 : decode cX7_isLine 91 = .ok (.lcmp, 1) := by decide +kernel
theorem dX7_isLine_92 : decode cX7_isLine 92 = .ok (.ifCond .ne 7, 3) := by decide +kernel
theorem dX7_isLine_95 : decode cX7_isLine 95 = .ok (.iconst 5, 1) := by decide +kernel
theorem dX7_isLine_96 : decode cX7_isLine 96 = .ok (.goto 4, 3) := by decide +kernel
theorem dX7_isLine_99 : decode cX7_isLine 99 = .ok (.iconst (-1), 1) := by decide +kernel
theorem dX7_isLine_100 : decode cX7_isLine 100 = .ok (.iastore, 1) := by decide +kernel
theorem dX7_isLine_101 : decode cX7_isLine 101 = .ok (.aload_n 0, 1) := by decide +kernel
theorem dX7_isLine_102 : decode cX7_isLine 102 = .ok (.getfield 19, 3) := by decide +kernel
theorem dX7_isLine_105 : decode cX7_isLine 105 = .ok (.iload_n 1, 1) := by decide +kernel
theorem dX7_isLine_106 : decode cX7_isLine 106 = .ok (.iaload, 1) := by decide +kernel
theorem dX7_isLine_107 : decode cX7_isLine 107 = .ok (.tableswitch 63 0 5 #[37, 37, 43, 49, 55, 61], 37) := by decide +kernel
theorem dX7_isLine_144 : decode cX7_isLine 144 = .ok (.aload_n 0, 1) := by decide +kernel
theorem dX7_isLine_145 : decode cX7_isLine 145 = .ok (.iload_n 1, 1) := by decide +kernel
theorem dX7_isLine_146 : decode cX7_isLine 146 = .ok (.invokevirtual 114, 3) := by decide +kernel
theorem dX7_isLine_149 : decode cX7_isLine 149 = .ok (.ireturn, 1) := by decide +kernel
theorem dX7_isLine_150 : decode cX7_isLine 150 = .ok (.aload_n 0, 1) := by decide +kernel
theorem dX7_isLine_151 : decode cX7_isLine 151 = .ok (.iload_n 1, 1) := by decide +kernel
theorem dX7_isLine_152 : decode cX7_isLine 152 = .ok (.invokevirtual 118, 3) := by decide +kernel
theorem dX7_isLine_155 : decode cX7_isLine 155 = .ok (.ireturn, 1) := by decide +kernel
theorem dX7_isLine_156 : decode cX7_isLine 156 = .ok (.aload_n 0, 1) := by decide +kernel
theorem dX7_isLine_157 : decode cX7_isLine 157 = .ok (.iload_n 1, 1) := by decide +kernel
theorem dX7_isLine_158 : decode cX7_isLine 158 = .ok (.invokevirtual 121, 3) := by decide +kernel
theorem dX7_isLine_161 : decode cX7_isLine 161 = .ok (.ireturn, 1) := by decide +kernel
theorem dX7_isLine_162 : decode cX7_isLine 162 = .ok (.aload_n 0, 1) := by decide +kernel
theorem dX7_isLine_163 : decode cX7_isLine 163 = .ok (.iload_n 1, 1) := by decide +kernel
theorem dX7_isLine_164 : decode cX7_isLine 164 = .ok (.invokevirtual 124, 3) := by decide +kernel
theorem dX7_isLine_167 : decode cX7_isLine 167 = .ok (.ireturn, 1) := by decide +kernel
theorem dX7_isLine_168 : decode cX7_isLine 168 = .ok (.iconst 1, 1) := by decide +kernel
theorem dX7_isLine_169 : decode cX7_isLine 169 = .ok (.ireturn, 1) := by decide +kernel
theorem dX7_isLine_170 : decode cX7_isLine 170 = .ok (.aload_n 0, 1) := by decide +kernel
theorem dX7_isLine_171 : decode cX7_isLine 171 = .ok (.invokevirtual 92, 3) := by decide +kernel
theorem dX7_isLine_174 : decode cX7_isLine 174 = .ok (.ireturn, 1) := by decide +kernel
set_option maxRecDepth 20000 in
theorem ggX7_isText_X7_isLine : GoodIn wsX7_isText wsX7_isLine := goodIn_r _ [12, 13, 5, 14, 15, 16, 17, 18, 19, 20, 21, 22, 11, 23, 1, 24, 25, 26, 27, 28, 7, 29, 30, 31, 32, 6, 33, 34, 35, 36, 37, 38, 39, 4, 40, 41, 42, 43, 44, 45, 46, 47, 48, 49, 50, 51, 52, 53, 54, 55, 56, 57, 58, 59, 60, 61, 62, 63, 64, 65, 66, 67, 68, 69, 70, 71, 72, 73, 74, 75, 76, 77, 78, 79, 80, 81, 82, 83, 84, 85, 86, 87, 88, 89] (by decide +kernel) (by decide +kernel)
set_option maxRecDepth 20000 in
theorem gX7_isText_X7_isLine : GoodIn wsX7_isText (wsV RX7 130 RX7 yX7_isLine wsX7_isLine) := goodIn_app (goodIn_of _ (by decide +kernel)) ggX7_isText_X7_isLine
set_option maxRecDepth 20000 in
theorem ggX7_isText_X7_nextToken : GoodIn wsX7_isText wsX7_nextToken := goodIn_r _ [23, 1, 24, 25, 26, 27, 28, 7, 5, 29, 30, 31, 32, 6, 33, 34, 11, 35, 64, 65, 66, 67, 68, 69, 70, 71, 72, 73, 74, 75, 76, 77, 78, 79, 80, 81, 82, 83, 84, 85, 86, 87, 88, 89] (by decide +kernel) (by decide +kernel)
set_option maxRecDepth 20000 in
theorem gX7_isText_X7_nextToken : GoodIn wsX7_isText (wsV RX7 89 RX7 yX7_nextToken wsX7_nextToken) := goodIn_app (goodIn_of _ (by decide +kernel)) ggX7_isText_X7_nextToken
set_option maxRecDepth 20000 in
theorem ggX7_isText_X7_fails : GoodIn wsX7_isText wsX7_fails := goodIn_r _ [47, 26, 48, 64, 65, 66, 67, 68, 69, 70, 71, 72, 73, 74, 75, 76, 77, 78, 79, 80, 81, 82, 83, 84, 85, 86, 87, 88, 89] (by decide +kernel) (by decide +kernel)
set_option maxRecDepth 20000 in
theorem gX7_isText_X7_fails : GoodIn wsX7_isText (wsV RX7 92 RX7 yX7_fails wsX7_fails) := goodIn_app (goodIn_of _ (by decide +kernel)) ggX7_isText_X7_fails
theorem dX7_isText_0 : decode cX7_isText 0 = .ok (.aload_n 0, 1) := by decide +kernel
theorem dX7_isText_1 : decode cX7_isText 1 = .ok (.iconst 0, 1) := by decide +kernel
theorem dX7_isText_2 : decode cX7_isText 2 = .ok (.putfield 58, 3) := by decide +kernel
theorem dX7_isText_5 : decode cX7_isText 5 = .ok (.aload_n 0, 1) := by decide +kernel
theorem dX7_isText_6 : decode cX7_isText 6 = .ok (.iconst 0, 1) := by decide +kernel
theorem dX7_isText_7 : decode cX7_isText 7 = .ok (.putfield 127, 3) := by decide +kernel
theorem dX7_isText_10 : decode cX7_isText 10 = .ok (.aload_n 0, 1) := by decide +kernel
theorem dX7_isText_11 : decode cX7_isText 11 = .ok (.aload_n 0, 1) := by decide +kernel
theorem dX7_isText_12 : decode cX7_isText 12 = .ok (.getfield 45, 3) := by decide +kernel
theorem dX7_isText_15 : decode cX7_isText 15 = .ok (.putfield 99, 3) := by decide +kernel
theorem dX7_isText_18 : decode cX7_isText 18 = .ok (.iconst 1, 1) := by decide +kernel
theorem dX7_isText_19 : decode cX7_isText 19 = .ok (.istore_n 1, 1) := by decide +kernel
theorem dX7_isText_20 : decode cX7_isText 20 = .ok (.iload_n 1, 1) := by decide +kernel
theorem dX7_isText_21 : decode cX7_isText 21 = .ok (.ifCond .eq 62, 3) := by decide +kernel
theorem dX7_isText_24 : decode cX7_isText 24 = .ok (.aload_n 0, 1) := by decide +kernel
theorem dX7_isText_25 : decode cX7_isText 25 = .ok (.bipush 6, 2) := by decide +kernel
theorem dX7_isText_27 : decode cX7_isText 27 = .ok (.aload_n 0, 1) := by decide +kernel
theorem dX7_isText_28 : decode cX7_isText 28 = .ok (.getfield 127, 3) := by decide +kernel
theorem dX7_isText_31 : decode cX7_isText 31 = .ok (.imul, 1) := by decide +kernel
theorem dX7_isText_32 : decode cX7_isText 32 = .ok (.invokevirtual 130, 3) := by decide +kernel
theorem dX7_isText_35 : decode cX7_isText 35 = .ok (.ifCond .ne 5, 3) := by decide +kernel
theorem dX7_isText_38 : decode cX7_isText 38 = .ok (.iconst 0, 1) := by decide +kernel
theorem dX7_isText_39 : decode cX7_isText 39 = .ok (.ireturn, 1) := by decide +kernel
theorem dX7_isText_40 : decode cX7_isText 40 = .ok (.aload_n 0, 1) := by decide +kernel
theorem dX7_isText_41 : decode cX7_isText 41 = .ok (.dup, 1) := by decide +kernel
theorem dX7_isText_42 : decode cX7_isText 42 = .ok (.getfield 127, 3) := by decide +kernel
theorem dX7_isText_45 : decode cX7_isText 45 = .ok (.iconst 1, 1) := by decide +kernel
theorem dX7_isText_46 : decode cX7_isText 46 = .ok (.iadd, 1) := by decide +kernel
theorem dX7_isText_47 : decode cX7_isText 47 = .ok (.putfield 127, 3) := by decide +kernel
theorem dX7_isText_50 : decode cX7_isText 50 = .ok (.aload_n 0, 1) := by decide +kernel
theorem dX7_isText_51 : decode cX7_isText 51 = .ok (.invokevirtual 89, 3) := by decide +kernel
theorem dX7_isText_54 : decode cX7_isText 54 = .ok (.aload_n 0, 1) := by decide +kernel
theorem dX7_isText_55 : decode cX7_isText 55 = .ok (.getfield 72, 3) := by decide +kernel
theorem dX7_isText_58 : decode cX7_isText 58 = .ok (.ldc2_w 84, 3) := by decide +kernel
theorem dX7_isText_61 : decode cX7_isText 61 = .ok (.lcmp, 1) := by decide +kernel
theorem dX7_isText_62 : decode cX7_isText 62 = .ok (.ifCond .ne 16, 3) := by decide +kernel
theorem dX7_isText_65 : decode cX7_isText 65 = .ok (.aload_n 0, 1) := by decide +kernel
theorem dX7_isText_66 : decode cX7_isText 66 = .ok (.getfield 127, 3) := by decide +kernel
theorem dX7_isText_69 : decode cX7_isText 69 = .ok (.bipush 8, 2) := by decide +kernel
theorem dX7_isText_71 : decode cX7_isText 71 = .ok (.if_icmp .ge 7, 3) := by decide +kernel
theorem dX7_isText_74 : decode cX7_isText 74 = .ok (.iconst 1, 1) := by decide +kernel
theorem dX7_isText_75 : decode cX7_isText 75 = .ok (.goto 4, 3) := by decide +kernel
theorem dX7_isText_78 : decode cX7_isText 78 = .ok (.iconst 0, 1) := by decide +kernel
theorem dX7_isText_79 : decode cX7_isText 79 = .ok (.istore_n 1, 1) := by decide +kernel
theorem dX7_isText_80 : decode cX7_isText 80 = .ok (.goto (-60), 3) := by decide +kernel
theorem dX7_isText_83 : decode cX7_isText 83 = .ok (.aload_n 0, 1) := by decide +kernel
theorem dX7_isText_84 : decode cX7_isText 84 = .ok (.getfield 72, 3) := by decide +kernel
theorem dX7_isText_87 : decode cX7_isText 87 = .ok (.ldc2_w 70, 3) := by decide +kernel
theorem dX7_isText_90 : decode cX7_isText 90 = .ok (.lcmp, 1) := by decide +kernel
theorem dX7_isText_91 : decode cX7_isText 91 = .ok (.ifCond .eq 10, 3) := by decide +kernel
theorem dX7_isText_94 : decode cX7_isText 94 = .ok (.aload_n 0, 1) := by decide +kernel
theorem dX7_isText_95 : decode cX7_isText 95 = .ok (.invokevirtual 92, 3) := by decide +kernel
theorem dX7_isText_98 : decode cX7_isText 98 = .ok (.ifCond .eq 7, 3) := by decide +kernel
theorem dX7_isText_101 : decode cX7_isText 101 = .ok (.iconst 1, 1) := by decide +kernel
theorem dX7_isText_102 : decode cX7_isText 102 = .ok (.goto 4, 3) := by decide +kernel
theorem dX7_isText_105 : decode cX7_isText 105 = .ok (.iconst 0, 1) := by decide +kernel
theorem dX7_isText_106 : decode cX7_isText 106 = .ok (.ireturn, 1) := by decide +kernel
set_option maxRecDepth 20000 in
theorem ggX7_fault_X7_isText : GoodIn wsX7_fault wsX7_isText := goodIn_r _ [6, 7, 8, 9, 10, 11, 12, 13, 14, 15, 16, 5, 17, 18, 19, 20, 21, 22, 23, 24, 25, 26, 27, 28, 29, 30, 31, 32, 33, 34, 35, 36, 37, 38, 39, 40, 41, 42, 43, 44, 45, 46, 47, 48, 49, 50, 51, 52, 1, 53, 54, 55, 56, 57, 58, 59, 60, 61, 62, 63, 64, 65, 66, 67, 68, 69, 70, 71, 72, 73, 74, 75, 76, 77, 78, 79, 80, 81, 82, 83, 84, 85, 86, 87, 88, 89, 90, 91, 92, 93] (by decide +kernel) (by decide +kernel)
set_option maxRecDepth 20000 in
theorem gX7_fault_X7_isText : GoodIn wsX7_fault (wsV RX7 133 RX7 yX7_isText wsX7_isText) := goodIn_app (goodIn_of _ (by decide +kernel)) ggX7_fault_X7_isText
theorem dX7_fault_0 : decode cX7_fault 0 = .ok (.aload_n 0, 1) := by decide +kernel
theorem dX7_fault_1 : decode cX7_fault 1 = .ok (.invokevirtual 133, 3) := by decide +kernel
theorem dX7_fault_4 : decode cX7_fault 4 = .ok (.ifCond .eq 7, 3) := by decide +kernel
theorem dX7_fault_7 : decode cX7_fault 7 = .ok (.iconst (-1), 1) := by decide +kernel
theorem dX7_fault_8 : decode cX7_fault 8 = .ok (.goto 7, 3) := by decide +kernel
theorem dX7_fault_11 : decode cX7_fault 11 = .ok (.aload_n 0, 1) := by decide +kernel
theorem dX7_fault_12 : decode cX7_fault 12 = .ok (.getfield 86, 3) := by decide +kernel
theorem dX7_fault_15 : decode cX7_fault 15 = .ok (.ireturn, 1) := by decide +kernel
theorem dX7_doLine_0 : decode cX7_doLine 0 = .ok (.aload_n 0, 1) := by decide +kernel
theorem dX7_doLine_1 : decode cX7_doLine 1 = .ok (.getfield 19, 3) := by decide +kernel
theorem dX7_doLine_4 : decode cX7_doLine 4 = .ok (.iload_n 1, 1) := by decide +kernel
theorem dX7_doLine_5 : decode cX7_doLine 5 = .ok (.iconst 1, 1) := by decide +kernel
theorem dX7_doLine_6 : decode cX7_doLine 6 = .ok (.iadd, 1) := by decide +kernel
theorem dX7_doLine_7 : decode cX7_doLine 7 = .ok (.iaload, 1) := by decide +kernel
theorem dX7_doLine_8 : decode cX7_doLine 8 = .ok (.istore_n 2, 1) := by decide +kernel
theorem dX7_doLine_9 : decode cX7_doLine 9 = .ok (.aload_n 0, 1) := by decide +kernel
theorem dX7_doLine_10 : decode cX7_doLine 10 = .ok (.getfield 19, 3) := by decide +kernel
theorem dX7_doLine_13 : decode cX7_doLine 13 = .ok (.iload_n 1, 1) := by decide +kernel
theorem dX7_doLine_14 : decode cX7_doLine 14 = .ok (.iaload, 1) := by decide +kernel
theorem dX7_doLine_15 : decode cX7_doLine 15 = .ok (.tableswitch 98 3 5 #[25, 56, 90], 25) := by decide +kernel
theorem dX7_doLine_40 : decode cX7_doLine 40 = .ok (.aload_n 0, 1) := by decide +kernel
theorem dX7_doLine_41 : decode cX7_doLine 41 = .ok (.aload_n 0, 1) := by decide +kernel
theorem dX7_doLine_42 : decode cX7_doLine 42 = .ok (.getfield 45, 3) := by decide +kernel
theorem dX7_doLine_45 : decode cX7_doLine 45 = .ok (.iconst 1, 1) := by decide +kernel
theorem dX7_doLine_46 : decode cX7_doLine 46 = .ok (.iload_n 2, 1) := by decide +kernel
theorem dX7_doLine_47 : decode cX7_doLine 47 = .ok (.ishl, 1) := by decide +kernel
theorem dX7_doLine_48 : decode cX7_doLine 48 = .ok (.iconst (-1), 1) := by decide +kernel
theorem dX7_doLine_49 : decode cX7_doLine 49 = .ok (.ixor, 1) := by decide +kernel
theorem dX7_doLine_50 : decode cX7_doLine 50 = .ok (.iand, 1) := by decide +kernel
theorem dX7_doLine_51 : decode cX7_doLine 51 = .ok (.putfield 45, 3) := by decide +kernel
theorem dX7_doLine_54 : decode cX7_doLine 54 = .ok (.aload_n 0, 1) := by decide +kernel
theorem dX7_doLine_55 : decode cX7_doLine 55 = .ok (.aload_n 0, 1) := by decide +kernel
theorem dX7_doLine_56 : decode cX7_doLine 56 = .ok (.getfield 136, 3) := by decide +kernel
theorem dX7_doLine_59 : decode cX7_doLine 59 = .ok (.iconst 1, 1) := by decide +kernel
theorem dX7_doLine_60 : decode cX7_doLine 60 = .ok (.iload_n 2, 1) := by decide +kernel
theorem dX7_doLine_61 : decode cX7_doLine 61 = .ok (.ishl, 1) := by decide +kernel
theorem dX7_doLine_62 : decode cX7_doLine 62 = .ok (.iconst (-1), 1) := by decide +kernel
theorem dX7_doLine_63 : decode cX7_doLine 63 = .ok (.ixor, 1) := by decide +kernel
theorem dX7_doLine_64 : decode cX7_doLine 64 = .ok (.iand, 1) := by decide +kernel
theorem dX7_doLine_65 : decode cX7_doLine 65 = .ok (.putfield 136, 3) := by decide +kernel
theorem dX7_doLine_68 : decode cX7_doLine 68 = .ok (.goto 200, 3) := by decide +kernel
theorem dX7_doLine_71 : decode cX7_doLine 71 = .ok (.aload_n 0, 1) := by decide +kernel
theorem dX7_doLine_72 : decode cX7_doLine 72 = .ok (.aload_n 0, 1) := by decide +kernel
theorem dX7_doLine_73 : decode cX7_doLine 73 = .ok (.getfield 136, 3) := by decide +kernel
theorem dX7_doLine_76 : decode cX7_doLine 76 = .ok (.iconst 1, 1) := by decide +kernel
theorem dX7_doLine_77 : decode cX7_doLine 77 = .ok (.iload_n 2, 1) := by decide +kernel
theorem dX7_doLine_78 : decode cX7_doLine 78 = .ok (.ishl, 1) := by decide +kernel
theorem dX7_doLine_79 : decode cX7_doLine 79 = .ok (.ior, 1) := by decide +kernel
theorem dX7_doLine_80 : decode cX7_doLine 80 = .ok (.putfield 136, 3) := by decide +kernel
theorem dX7_doLine_83 : decode cX7_doLine 83 = .ok (.aload_n 0, 1) := by decide +kernel
theorem dX7_doLine_84 : decode cX7_doLine 84 = .ok (.getfield 7, 3) := by decide +kernel
theorem dX7_doLine_87 : decode cX7_doLine 87 = .ok (.bipush 6, 2) := by decide +kernel
theorem dX7_doLine_89 : decode cX7_doLine 89 = .ok (.iload_n 2, 1) := by decide +kernel
theorem dX7_doLine_90 : decode cX7_doLine 90 = .ok (.imul, 1) := by decide +kernel
theorem dX7_doLine_91 : decode cX7_doLine 91 = .ok (.iconst 5, 1) := by decide +kernel
theorem dX7_doLine_92 : decode cX7_doLine 92 = .ok (.iadd, 1) := by decide +kernel
theorem dX7_doLine_93 : decode cX7_doLine 93 = .ok (.aload_n 0, 1) := by decide +kernel
theorem dX7_doLine_94 : decode cX7_doLine 94 = .ok (.getfield 19, 3) := by decide +kernel
theorem dX7_doLine_97 : decode cX7_doLine 97 = .ok (.iload_n 1, 1) := by decide +kernel
theorem dX7_doLine_98 : decode cX7_doLine 98 = .ok (.iconst 2, 1) := by decide +kernel
theorem dX7_doLine_99 : decode cX7_doLine 99 = .ok (.iadd, 1) := by decide +kernel
theorem dX7_doLine_100 : decode cX7_doLine 100 = .ok (.iaload, 1) := by decide +kernel
theorem dX7_doLine_101 : decode cX7_doLine 101 = .ok (.iastore, 1) := by decide +kernel
theorem dX7_doLine_102 : decode cX7_doLine 102 = .ok (.goto 166, 3) := by decide +kernel
theorem dX7_doLine_105 : decode cX7_doLine 105 = .ok (.aload_n 0, 1) := by decide +kernel
theorem dX7_doLine_106 : decode cX7_doLine 106 = .ok (.iconst 0, 1) := by decide +kernel
theorem dX7_doLine_107 : decode cX7_doLine 107 = .ok (.putfield 136, 3) := by decide +kernel
theorem dX7_doLine_110 : decode cX7_doLine 110 = .ok (.goto 158, 3) := by decide +kernel
theorem dX7_doLine_113 : decode cX7_doLine 113 = .ok (.aload_n 0, 1) := by decide +kernel
theorem dX7_doLine_114 : decode cX7_doLine 114 = .ok (.aload_n 0, 1) := by decide +kernel
theorem dX7_doLine_115 : decode cX7_doLine 115 = .ok (.getfield 45, 3) := by decide +kernel
theorem dX7_doLine_118 : decode cX7_doLine 118 = .ok (.iconst 1, 1) := by decide +kernel
theorem dX7_doLine_119 : decode cX7_doLine 119 = .ok (.iload_n 2, 1) := by decide +kernel
theorem dX7_doLine_120 : decode cX7_doLine 120 = .ok (.ishl, 1) := by decide +kernel
theorem dX7_doLine_121 : decode cX7_doLine 121 = .ok (.ior, 1) := by decide +kernel
theorem dX7_doLine_122 : decode cX7_doLine 122 = .ok (.putfield 45, 3) := by decide +kernel
theorem dX7_doLine_125 : decode cX7_doLine 125 = .ok (.aload_n 0, 1) := by decide +kernel
theorem dX7_doLine_126 : decode cX7_doLine 126 = .ok (.aload_n 0, 1) := by decide +kernel
theorem dX7_doLine_127 : decode cX7_doLine 127 = .ok (.getfield 136, 3) := by decide +kernel
theorem dX7_doLine_130 : decode cX7_doLine 130 = .ok (.iconst 1, 1) := by decide +kernel
theorem dX7_doLine_131 : decode cX7_doLine 131 = .ok (.iload_n 2, 1) := by decide +kernel
theorem dX7_doLine_132 : decode cX7_doLine 132 = .ok (.ishl, 1) := by decide +kernel
theorem dX7_doLine_133 : decode cX7_doLine 133 = .ok (.iconst (-1), 1) := by decide +kernel
theorem dX7_doLine_134 : decode cX7_doLine 134 = .ok (.ixor, 1) := by decide +kernel
theorem dX7_doLine_135 : decode cX7_doLine 135 = .ok (.iand, 1) := by decide +kernel
theorem dX7_doLine_136 : decode cX7_doLine 136 = .ok (.putfield 136, 3) := by decide +kernel
theorem dX7_doLine_139 : decode cX7_doLine 139 = .ok (.aload_n 0, 1) := by decide +kernel
theorem dX7_doLine_140 : decode cX7_doLine 140 = .ok (.getfield 7, 3) := by decide +kernel
theorem dX7_doLine_143 : decode cX7_doLine 143 = .ok (.bipush 6, 2) := by decide +kernel
theorem dX7_doLine_145 : decode cX7_doLine 145 = .ok (.iload_n 2, 1) := by decide +kernel
theorem dX7_doLine_146 : decode cX7_doLine 146 = .ok (.imul, 1) := by decide +kernel
theorem dX7_doLine_147 : decode cX7_doLine 147 = .ok (.aload_n 0, 1) := by decide +kernel
theorem dX7_doLine_148 : decode cX7_doLine 148 = .ok (.getfield 19, 3) := by decide +kernel
theorem dX7_doLine_151 : decode cX7_doLine 151 = .ok (.iload_n 1, 1) := by decide +kernel
theorem dX7_doLine_152 : decode cX7_doLine 152 = .ok (.iaload, 1) := by decide +kernel
theorem dX7_doLine_153 : decode cX7_doLine 153 = .ok (.iastore, 1) := by decide +kernel
theorem dX7_doLine_154 : decode cX7_doLine 154 = .ok (.aload_n 0, 1) := by decide +kernel
theorem dX7_doLine_155 : decode cX7_doLine 155 = .ok (.getfield 7, 3) := by decide +kernel
theorem dX7_doLine_158 : decode cX7_doLine 158 = .ok (.bipush 6, 2) := by decide +kernel
theorem dX7_doLine_160 : decode cX7_doLine 160 = .ok (.iload_n 2, 1) := by decide +kernel
theorem dX7_doLine_161 : decode cX7_doLine 161 = .ok (.imul, 1) := by decide +kernel
theorem dX7_doLine_162 : decode cX7_doLine 162 = .ok (.iconst 1, 1) := by decide +kernel
theorem dX7_doLine_163 : decode cX7_doLine 163 = .ok (.iadd, 1) := by decide +kernel
theorem dX7_doLine_164 : decode cX7_doLine 164 = .ok (.aload_n 0, 1) := by decide +kernel
theorem dX7_doLine_165 : decode cX7_doLine 165 = .ok (.getfield 19, 3) := by decide +kernel
theorem dX7_doLine_168 : decode cX7_doLine 168 = .ok (.iload_n 1, 1) := by decide +kernel
theorem dX7_doLine_169 : decode cX7_doLine 169 = .ok (.iconst 2, 1) := by decide +kernel
theorem dX7_doLine_170 : decode cX7_doLine 170 = .ok (.iadd, 1) := by decide +kernel
theorem dX7_doLine_171 : decode cX7_doLine 171 = .ok (.iaload, 1) := by decide +kernel
theorem dX7_doLine_172 : decode cX7_doLine 172 = .ok (.iastore, 1) := by decide +kernel
theorem dX7_doLine_173 : decode cX7_doLine 173 = .ok (.aload_n 0, 1) := by decide +kernel
theorem dX7_doLine_174 : decode cX7_doLine 174 = .ok (.getfield 7, 3) := by decide +kernel
theorem dX7_doLine_177 : decode cX7_doLine 177 = .ok (.bipush 6, 2) := by decide +kernel
theorem dX7_doLine_179 : decode cX7_doLine 179 = .ok (.iload_n 2, 1) := by decide +kernel
theorem dX7_doLine_180 : decode cX7_doLine 180 = .ok (.imul, 1) := by decide +kernel
theorem dX7_doLine_181 : decode cX7_doLine 181 = .ok (.iconst 2, 1) := by decide +kernel
theorem dX7_doLine_182 : decode cX7_doLine 182 = .ok (.iadd, 1) := by decide +kernel
theorem dX7_doLine_183 : decode cX7_doLine 183 = .ok (.aload_n 0, 1) := by decide +kernel
theorem dX7_doLine_184 : decode cX7_doLine 184 = .ok (.getfield 19, 3) := by decide +kernel
theorem dX7_doLine_187 : decode cX7_doLine 187 = .ok (.iload_n 1, 1) := by decide +kernel
theorem dX7_doLine_188 : decode cX7_doLine 188 = .ok (.iconst 3, 1) := by decide +kernel
theorem dX7_doLine_189 : decode cX7_doLine 189 = .ok (.iadd, 1) := by decide +kernel
theorem dX7_doLine_190 : decode cX7_doLine 190 = .ok (.iaload, 1) := by decide +kernel
theorem dX7_doLine_191 : decode cX7_doLine 191 = .ok (.iastore, 1) := by decide +kernel
theorem dX7_doLine_192 : decode cX7_doLine 192 = .ok (.aload_n 0, 1) := by decide +kernel
theorem dX7_doLine_193 : decode cX7_doLine 193 = .ok (.getfield 7, 3) := by decide +kernel
theorem dX7_doLine_196 : decode cX7_doLine 196 = .ok (.bipush 6, 2) := by decide +kernel
theorem dX7_doLine_198 : decode cX7_doLine 198 = .ok (.iload_n 2, 1) := by decide +kernel
theorem dX7_doLine_199 : decode cX7_doLine 199 = .ok (.imul, 1) := by decide +kernel
theorem dX7_doLine_200 : decode cX7_doLine 200 = .ok (.iconst 3, 1) := by decide +kernel
theorem dX7_doLine_201 : decode cX7_doLine 201 = .ok (.iadd, 1) := by decide +kernel
theorem dX7_doLine_202 : decode cX7_doLine 202 = .ok (.aload_n 0, 1) := by decide +kernel
theorem dX7_doLine_203 : decode cX7_doLine 203 = .ok (.getfield 19, 3) := by decide +kernel
theorem dX7_doLine_206 : decode cX7_doLine 206 = .ok (.iload_n 1, 1) := by decide +kernel
theorem dX7_doLine_207 : decode cX7_doLine 207 = .ok (.iaload, 1) := by decide +kernel
theorem dX7_doLine_208 : decode cX7_doLine 208 = .ok (.iconst 2, 1) := by decide +kernel
theorem dX7_doLine_209 : decode cX7_doLine 209 = .ok (.if_icmp .ne 9, 3) := by decide +kernel
theorem dX7_doLine_212 : decode cX7_doLine 212 = .ok (.sipush (-1440), 3) := by decide +kernel
theorem dX7_doLine_215 : decode cX7_doLine 215 = .ok (.goto 14, 3) := by decide +kernel
theorem dX7_doLine_218 : decode cX7_doLine 218 = .ok (.aload_n 0, 1) := by decide +kernel
theorem dX7_doLine_219 : decode cX7_doLine 219 = .ok (.getfield 19, 3) := by decide +kernel
theorem dX7_doLine_222 : decode cX7_doLine 222 = .ok (.iload_n 1, 1) := by decide +kernel
theorem dX7_doLine_223 : decode cX7_doLine 223 = .ok (.iconst 4, 1) := by decide +kernel
theorem dX7_doLine_224 : decode cX7_doLine 224 = .ok (.iadd, 1) := by decide +kernel
theorem dX7_doLine_225 : decode cX7_doLine 225 = .ok (.iaload, 1) := by decide +kernel
theorem dX7_doLine_226 : decode cX7_doLine 226 = .ok (.bipush 120, 2) := by decide +kernel
theorem dX7_doLine_228 : decode cX7_doLine 228 = .ok (.isub, 1) := by decide +kernel
theorem dX7_doLine_229 : decode cX7_doLine 229 = .ok (.iastore, 1) := by decide +kernel
theorem dX7_doLine_230 : decode cX7_doLine 230 = .ok (.aload_n 0, 1) := by decide +kernel
theorem dX7_doLine_231 : decode cX7_doLine 231 = .ok (.getfield 7, 3) := by decide +kernel
theorem dX7_doLine_234 : decode cX7_doLine 234 = .ok (.bipush 6, 2) := by decide +kernel
theorem dX7_doLine_236 : decode cX7_doLine 236 = .ok (.iload_n 2, 1) := by decide +kernel
theorem dX7_doLine_237 : decode cX7_doLine 237 = .ok (.imul, 1) := by decide +kernel
theorem dX7_doLine_238 : decode cX7_doLine 238 = .ok (.iconst 4, 1) := by decide +kernel
theorem dX7_doLine_239 : decode cX7_doLine 239 = .ok (.iadd, 1) := by decide +kernel
theorem dX7_doLine_240 : decode cX7_doLine 240 = .ok (.aload_n 0, 1) := by decide +kernel
theorem dX7_doLine_241 : decode cX7_doLine 241 = .ok (.getfield 19, 3) := by decide +kernel
theorem dX7_doLine_244 : decode cX7_doLine 244 = .ok (.iload_n 1, 1) := by decide +kernel
theorem dX7_doLine_245 : decode cX7_doLine 245 = .ok (.iaload, 1) := by decide +kernel
theorem dX7_doLine_246 : decode cX7_doLine 246 = .ok (.iconst 2, 1) := by decide +kernel
theorem dX7_doLine_247 : decode cX7_doLine 247 = .ok (.if_icmp .ne 9, 3) := by decide +kernel
theorem dX7_doLine_250 : decode cX7_doLine 250 = .ok (.sipush (-1440), 3) := by decide +kernel
theorem dX7_doLine_253 : decode cX7_doLine 253 = .ok (.goto 14, 3) := by decide +kernel
theorem dX7_doLine_256 : decode cX7_doLine 256 = .ok (.aload_n 0, 1) := by decide +kernel
theorem dX7_doLine_257 : decode cX7_doLine 257 = .ok (.getfield 19, 3) := by decide +kernel
theorem dX7_doLine_260 : decode cX7_doLine 260 = .ok (.iload_n 1, 1) := by decide +kernel
theorem dX7_doLine_261 : decode cX7_doLine 261 = .ok (.iconst 5, 1) := by decide +kernel
theorem dX7_doLine_262 : decode cX7_doLine 262 = .ok (.iadd, 1) := by decide +kernel
theorem dX7_doLine_263 : decode cX7_doLine 263 = .ok (.iaload, 1) := by decide +kernel
theorem dX7_doLine_264 : decode cX7_doLine 264 = .ok (.bipush 120, 2) := by decide +kernel
theorem dX7_doLine_266 : decode cX7_doLine 266 = .ok (.isub, 1) := by decide +kernel
theorem dX7_doLine_267 : decode cX7_doLine 267 = .ok (.iastore, 1) := by decide +kernel
theorem dX7_doLine_268 : decode cX7_doLine 268 = .ok (.return_, 1) := by decide +kernel
set_option maxRecDepth 20000 in
theorem ggX7_house_X7_isText : GoodIn wsX7_house wsX7_isText := goodIn_r _ [7, 8, 1, 9, 10, 11, 12, 13, 14, 15, 16, 6, 17, 18, 19, 20, 21, 22, 23, 24, 25, 26, 27, 28, 2, 29, 30, 31, 32, 33, 34, 35, 36, 37, 38, 39, 40, 41, 42, 43, 44, 45, 46, 47, 48, 49, 50, 51, 52, 53, 54, 55, 56, 57, 58, 59, 60, 61, 62, 63, 64, 65, 66, 67, 74, 75, 76, 77, 78, 79, 80, 81, 82, 83, 84, 85, 86, 87, 88, 89, 90, 91, 92, 93, 94, 95, 96, 97, 98, 99] (by decide +kernel) (by decide +kernel)
set_option maxRecDepth 20000 in
theorem gX7_house_X7_isText : GoodIn wsX7_house (wsV RX7 133 RX7 yX7_isText wsX7_isText) := goodIn_app (goodIn_of _ (by decide +kernel)) ggX7_house_X7_isText
set_option maxRecDepth 20000 in
theorem ggX7_house_X7_doLine : GoodIn wsX7_house wsX7_doLine := goodIn_r _ [71, 18, 9, 72, 73, 74, 75, 76, 77, 78, 79, 80, 81, 82, 83, 84, 85, 86, 87, 88, 89, 90, 91, 92, 93, 94, 95, 96, 97, 98, 99] (by decide +kernel) (by decide +kernel)
set_option maxRecDepth 20000 in
theorem gX7_house_X7_doLine : GoodIn wsX7_house (wsV RX7 139 RX7 yX7_doLine wsX7_doLine) := goodIn_app (goodIn_of _ (by decide +kernel)) ggX7_house_X7_doLine
theorem dX7_house_0 : decode cX7_house 0 = .ok (.aload_n 0, 1) := by decide +kernel
theorem dX7_house_1 : decode cX7_house 1 = .ok (.invokevirtual 133, 3) := by decide +kernel
theorem dX7_house_4 : decode cX7_house 4 = .ok (.ifCond .ne 6, 3) := by decide +kernel
theorem dX7_house_7 : decode cX7_house 7 = .ok (.bipush (-4), 2) := by decide +kernel
theorem dX7_house_9 : decode cX7_house 9 = .ok (.ireturn, 1) := by decide +kernel
theorem dX7_house_10 : decode cX7_house 10 = .ok (.iconst 0, 1) := by decide +kernel
theorem dX7_house_11 : decode cX7_house 11 = .ok (.istore_n 1, 1) := by decide +kernel
theorem dX7_house_12 : decode cX7_house 12 = .ok (.iload_n 1, 1) := by decide +kernel
theorem dX7_house_13 : decode cX7_house 13 = .ok (.aload_n 0, 1) := by decide +kernel
theorem dX7_house_14 : decode cX7_house 14 = .ok (.getfield 127, 3) := by decide +kernel
theorem dX7_house_17 : decode cX7_house 17 = .ok (.if_icmp .ge 17, 3) := by decide +kernel
theorem dX7_house_20 : decode cX7_house 20 = .ok (.aload_n 0, 1) := by decide +kernel
theorem dX7_house_21 : decode cX7_house 21 = .ok (.bipush 6, 2) := by decide +kernel
theorem dX7_house_23 : decode cX7_house 23 = .ok (.iload_n 1, 1) := by decide +kernel
theorem dX7_house_24 : decode cX7_house 24 = .ok (.imul, 1) := by decide +kernel
theorem dX7_house_25 : decode cX7_house 25 = .ok (.invokevirtual 139, 3) := by decide +kernel
theorem dX7_house_28 : decode cX7_house 28 = .ok (.iinc 1 1, 3) := by decide +kernel
theorem dX7_house_31 : decode cX7_house 31 = .ok (.goto (-19), 3) := by decide +kernel
theorem dX7_house_34 : decode cX7_house 34 = .ok (.aload_n 0, 1) := by decide +kernel
theorem dX7_house_35 : decode cX7_house 35 = .ok (.iconst 0, 1) := by decide +kernel
theorem dX7_house_36 : decode cX7_house 36 = .ok (.putfield 53, 3) := by decide +kernel
theorem dX7_house_39 : decode cX7_house 39 = .ok (.aload_n 0, 1) := by decide +kernel
theorem dX7_house_40 : decode cX7_house 40 = .ok (.getfield 127, 3) := by decide +kernel
theorem dX7_house_43 : decode cX7_house 43 = .ok (.ireturn, 1) := by decide +kernel
set_option maxRecDepth 20000 in
theorem ggX7_clock_X7_isClock : GoodIn wsX7_clock wsX7_isClock := goodIn_r _ [7, 8, 9, 10, 6, 11, 12, 13, 14, 15, 16, 17, 18, 19, 20, 21, 22, 23, 24, 25, 26, 27, 28, 29, 30, 31, 32, 33, 34, 35, 36, 37, 38, 39, 40] (by decide +kernel) (by decide +kernel)
set_option maxRecDepth 20000 in
theorem gX7_clock_X7_isClock : GoodIn wsX7_clock (wsV RX7 143 RX7 yX7_isClock wsX7_isClock) := goodIn_app (goodIn_of _ (by decide +kernel)) ggX7_clock_X7_isClock
set_option maxRecDepth 20000 in
theorem ggX7_clock_X7_has : GoodIn wsX7_clock wsX7_has := goodIn_r _ [14] (by decide +kernel) (by decide +kernel)
set_option maxRecDepth 20000 in
theorem gX7_clock_X7_has : GoodIn wsX7_clock (va_wsS RX7 49 yX7_has wsX7_has) := goodIn_app (goodIn_of _ (by decide +kernel)) ggX7_clock_X7_has
theorem dX7_clock_0 : decode cX7_clock 0 = .ok (.aload_n 0, 1) := by decide +kernel
theorem dX7_clock_1 : decode cX7_clock 1 = .ok (.iload_n 1, 1) := by decide +kernel
theorem dX7_clock_2 : decode cX7_clock 2 = .ok (.invokevirtual 143, 3) := by decide +kernel
theorem dX7_clock_5 : decode cX7_clock 5 = .ok (.ifCond .ne 6, 3) := by decide +kernel
theorem dX7_clock_8 : decode cX7_clock 8 = .ok (.bipush (-2), 2) := by decide +kernel
theorem dX7_clock_10 : decode cX7_clock 10 = .ok (.ireturn, 1) := by decide +kernel
theorem dX7_clock_11 : decode cX7_clock 11 = .ok (.aload_n 0, 1) := by decide +kernel
theorem dX7_clock_12 : decode cX7_clock 12 = .ok (.getfield 7, 3) := by decide +kernel
theorem dX7_clock_15 : decode cX7_clock 15 = .ok (.bipush 6, 2) := by decide +kernel
theorem dX7_clock_17 : decode cX7_clock 17 = .ok (.iload_n 1, 1) := by decide +kernel
theorem dX7_clock_18 : decode cX7_clock 18 = .ok (.imul, 1) := by decide +kernel
theorem dX7_clock_19 : decode cX7_clock 19 = .ok (.iaload, 1) := by decide +kernel
theorem dX7_clock_20 : decode cX7_clock 20 = .ok (.iconst 2, 1) := by decide +kernel
theorem dX7_clock_21 : decode cX7_clock 21 = .ok (.if_icmp .ne 7, 3) := by decide +kernel
theorem dX7_clock_24 : decode cX7_clock 24 = .ok (.iconst 1, 1) := by decide +kernel
theorem dX7_clock_25 : decode cX7_clock 25 = .ok (.goto 4, 3) := by decide +kernel
theorem dX7_clock_28 : decode cX7_clock 28 = .ok (.iconst 0, 1) := by decide +kernel
theorem dX7_clock_29 : decode cX7_clock 29 = .ok (.istore_n 3, 1) := by decide +kernel
theorem dX7_clock_30 : decode cX7_clock 30 = .ok (.iload_n 2, 1) := by decide +kernel
theorem dX7_clock_31 : decode cX7_clock 31 = .ok (.tableswitch 119 0 5 #[37, 49, 37, 69, 69, 92], 37) := by decide +kernel
theorem dX7_clock_68 : decode cX7_clock 68 = .ok (.aload_n 0, 1) := by decide +kernel
theorem dX7_clock_69 : decode cX7_clock 69 = .ok (.getfield 7, 3) := by decide +kernel
theorem dX7_clock_72 : decode cX7_clock 72 = .ok (.bipush 6, 2) := by decide +kernel
theorem dX7_clock_74 : decode cX7_clock 74 = .ok (.iload_n 1, 1) := by decide +kernel
theorem dX7_clock_75 : decode cX7_clock 75 = .ok (.imul, 1) := by decide +kernel
theorem dX7_clock_76 : decode cX7_clock 76 = .ok (.iload_n 2, 1) := by decide +kernel
theorem dX7_clock_77 : decode cX7_clock 77 = .ok (.iadd, 1) := by decide +kernel
theorem dX7_clock_78 : decode cX7_clock 78 = .ok (.iaload, 1) := by decide +kernel
theorem dX7_clock_79 : decode cX7_clock 79 = .ok (.ireturn, 1) := by decide +kernel
theorem dX7_clock_80 : decode cX7_clock 80 = .ok (.iload_n 3, 1) := by decide +kernel
theorem dX7_clock_81 : decode cX7_clock 81 = .ok (.ifCond .eq 7, 3) := by decide +kernel
theorem dX7_clock_84 : decode cX7_clock 84 = .ok (.iconst (-1), 1) := by decide +kernel
theorem dX7_clock_85 : decode cX7_clock 85 = .ok (.goto 14, 3) := by decide +kernel
theorem dX7_clock_88 : decode cX7_clock 88 = .ok (.aload_n 0, 1) := by decide +kernel
theorem dX7_clock_89 : decode cX7_clock 89 = .ok (.getfield 7, 3) := by decide +kernel
theorem dX7_clock_92 : decode cX7_clock 92 = .ok (.bipush 6, 2) := by decide +kernel
theorem dX7_clock_94 : decode cX7_clock 94 = .ok (.iload_n 1, 1) := by decide +kernel
theorem dX7_clock_95 : decode cX7_clock 95 = .ok (.imul, 1) := by decide +kernel
theorem dX7_clock_96 : decode cX7_clock 96 = .ok (.iconst 1, 1) := by decide +kernel
theorem dX7_clock_97 : decode cX7_clock 97 = .ok (.iadd, 1) := by decide +kernel
theorem dX7_clock_98 : decode cX7_clock 98 = .ok (.iaload, 1) := by decide +kernel
theorem dX7_clock_99 : decode cX7_clock 99 = .ok (.ireturn, 1) := by decide +kernel
theorem dX7_clock_100 : decode cX7_clock 100 = .ok (.iload_n 3, 1) := by decide +kernel
theorem dX7_clock_101 : decode cX7_clock 101 = .ok (.ifCond .eq 7, 3) := by decide +kernel
theorem dX7_clock_104 : decode cX7_clock 104 = .ok (.iconst (-1), 1) := by decide +kernel
theorem dX7_clock_105 : decode cX7_clock 105 = .ok (.goto 17, 3) := by decide +kernel
theorem dX7_clock_108 : decode cX7_clock 108 = .ok (.aload_n 0, 1) := by decide +kernel
theorem dX7_clock_109 : decode cX7_clock 109 = .ok (.getfield 7, 3) := by decide +kernel
theorem dX7_clock_112 : decode cX7_clock 112 = .ok (.bipush 6, 2) := by decide +kernel
theorem dX7_clock_114 : decode cX7_clock 114 = .ok (.iload_n 1, 1) := by decide +kernel
theorem dX7_clock_115 : decode cX7_clock 115 = .ok (.imul, 1) := by decide +kernel
theorem dX7_clock_116 : decode cX7_clock 116 = .ok (.iload_n 2, 1) := by decide +kernel
theorem dX7_clock_117 : decode cX7_clock 117 = .ok (.iadd, 1) := by decide +kernel
theorem dX7_clock_118 : decode cX7_clock 118 = .ok (.iaload, 1) := by decide +kernel
theorem dX7_clock_119 : decode cX7_clock 119 = .ok (.bipush 120, 2) := by decide +kernel
theorem dX7_clock_121 : decode cX7_clock 121 = .ok (.iadd, 1) := by decide +kernel
theorem dX7_clock_122 : decode cX7_clock 122 = .ok (.ireturn, 1) := by decide +kernel
theorem dX7_clock_123 : decode cX7_clock 123 = .ok (.aload_n 0, 1) := by decide +kernel
theorem dX7_clock_124 : decode cX7_clock 124 = .ok (.getfield 136, 3) := by decide +kernel
theorem dX7_clock_127 : decode cX7_clock 127 = .ok (.iload_n 1, 1) := by decide +kernel
theorem dX7_clock_128 : decode cX7_clock 128 = .ok (.invokestatic 49, 3) := by decide +kernel
theorem dX7_clock_131 : decode cX7_clock 131 = .ok (.ifCond .eq 17, 3) := by decide +kernel
theorem dX7_clock_134 : decode cX7_clock 134 = .ok (.aload_n 0, 1) := by decide +kernel
theorem dX7_clock_135 : decode cX7_clock 135 = .ok (.getfield 7, 3) := by decide +kernel
theorem dX7_clock_138 : decode cX7_clock 138 = .ok (.bipush 6, 2) := by decide +kernel
theorem dX7_clock_140 : decode cX7_clock 140 = .ok (.iload_n 1, 1) := by decide +kernel
theorem dX7_clock_141 : decode cX7_clock 141 = .ok (.imul, 1) := by decide +kernel
theorem dX7_clock_142 : decode cX7_clock 142 = .ok (.iconst 5, 1) := by decide +kernel
theorem dX7_clock_143 : decode cX7_clock 143 = .ok (.iadd, 1) := by decide +kernel
theorem dX7_clock_144 : decode cX7_clock 144 = .ok (.iaload, 1) := by decide +kernel
theorem dX7_clock_145 : decode cX7_clock 145 = .ok (.goto 4, 3) := by decide +kernel
theorem dX7_clock_148 : decode cX7_clock 148 = .ok (.iconst (-1), 1) := by decide +kernel
theorem dX7_clock_149 : decode cX7_clock 149 = .ok (.ireturn, 1) := by decide +kernel
theorem dX7_clock_150 : decode cX7_clock 150 = .ok (.bipush (-3), 2) := by decide +kernel
theorem dX7_clock_152 : decode cX7_clock 152 = .ok (.ireturn, 1) := by decide +kernel
theorem dX7_rest_0 : decode cX7_rest 0 = .ok (.iload_n 0, 1) := by decide +kernel
theorem dX7_rest_1 : decode cX7_rest 1 = .ok (.iload_n 1, 1) := by decide +kernel
theorem dX7_rest_2 : decode cX7_rest 2 = .ok (.irem, 1) := by decide +kernel
theorem dX7_rest_3 : decode cX7_rest 3 = .ok (.istore_n 2, 1) := by decide +kernel
theorem dX7_rest_4 : decode cX7_rest 4 = .ok (.iload_n 2, 1) := by decide +kernel
theorem dX7_rest_5 : decode cX7_rest 5 = .ok (.ifCond .ge 9, 3) := by decide +kernel
theorem dX7_rest_8 : decode cX7_rest 8 = .ok (.iload_n 2, 1) := by decide +kernel
theorem dX7_rest_9 : decode cX7_rest 9 = .ok (.iload_n 1, 1) := by decide +kernel
theorem dX7_rest_10 : decode cX7_rest 10 = .ok (.iadd, 1) := by decide +kernel
theorem dX7_rest_11 : decode cX7_rest 11 = .ok (.goto 4, 3) := by decide +kernel
theorem dX7_rest_14 : decode cX7_rest 14 = .ok (.iload_n 2, 1) := by decide +kernel
theorem dX7_rest_15 : decode cX7_rest 15 = .ok (.ireturn, 1) := by decide +kernel
set_option maxRecDepth 20000 in
theorem ggX7_down_X7_rest : GoodIn wsX7_down wsX7_rest := goodIn_r _ [4] (by decide +kernel) (by decide +kernel)
set_option maxRecDepth 20000 in
theorem gX7_down_X7_rest : GoodIn wsX7_down (va_wsS RX7 146 yX7_rest wsX7_rest) := goodIn_app (goodIn_of _ (by decide +kernel)) ggX7_down_X7_rest
theorem dX7_down_0 : decode cX7_down 0 = .ok (.iload_n 0, 1) := by decide +kernel
theorem dX7_down_1 : decode cX7_down 1 = .ok (.iload_n 0, 1) := by decide +kernel
theorem dX7_down_2 : decode cX7_down 2 = .ok (.iload_n 1, 1) := by decide +kernel
theorem dX7_down_3 : decode cX7_down 3 = .ok (.invokestatic 146, 3) := by decide +kernel
theorem dX7_down_6 : decode cX7_down 6 = .ok (.isub, 1) := by decide +kernel
theorem dX7_down_7 : decode cX7_down 7 = .ok (.iload_n 1, 1) := by decide +kernel
theorem dX7_down_8 : decode cX7_down 8 = .ok (.idiv, 1) := by decide +kernel
theorem dX7_down_9 : decode cX7_down 9 = .ok (.ireturn, 1) := by decide +kernel
theorem dX7_hand_0 : decode cX7_hand 0 = .ok (.iload_n 2, 1) := by decide +kernel
theorem dX7_hand_1 : decode cX7_hand 1 = .ok (.aload_n 0, 1) := by decide +kernel
theorem dX7_hand_2 : decode cX7_hand 2 = .ok (.getfield 7, 3) := by decide +kernel
theorem dX7_hand_5 : decode cX7_hand 5 = .ok (.bipush 6, 2) := by decide +kernel
theorem dX7_hand_7 : decode cX7_hand 7 = .ok (.iload_n 1, 1) := by decide +kernel
theorem dX7_hand_8 : decode cX7_hand 8 = .ok (.imul, 1) := by decide +kernel
theorem dX7_hand_9 : decode cX7_hand 9 = .ok (.iconst 1, 1) := by decide +kernel
theorem dX7_hand_10 : decode cX7_hand 10 = .ok (.iadd, 1) := by decide +kernel
theorem dX7_hand_11 : decode cX7_hand 11 = .ok (.iaload, 1) := by decide +kernel
theorem dX7_hand_12 : decode cX7_hand 12 = .ok (.isub, 1) := by decide +kernel
theorem dX7_hand_13 : decode cX7_hand 13 = .ok (.sipush 1440, 3) := by decide +kernel
theorem dX7_hand_16 : decode cX7_hand 16 = .ok (.iload_n 3, 1) := by decide +kernel
theorem dX7_hand_17 : decode cX7_hand 17 = .ok (.iadd, 1) := by decide +kernel
theorem dX7_hand_18 : decode cX7_hand 18 = .ok (.imul, 1) := by decide +kernel
theorem dX7_hand_19 : decode cX7_hand 19 = .ok (.istore 4, 2) := by decide +kernel
theorem dX7_hand_21 : decode cX7_hand 21 = .ok (.sipush 1440, 3) := by decide +kernel
theorem dX7_hand_24 : decode cX7_hand 24 = .ok (.aload_n 0, 1) := by decide +kernel
theorem dX7_hand_25 : decode cX7_hand 25 = .ok (.getfield 7, 3) := by decide +kernel
theorem dX7_hand_28 : decode cX7_hand 28 = .ok (.bipush 6, 2) := by decide +kernel
theorem dX7_hand_30 : decode cX7_hand 30 = .ok (.iload_n 1, 1) := by decide +kernel
theorem dX7_hand_31 : decode cX7_hand 31 = .ok (.imul, 1) := by decide +kernel
theorem dX7_hand_32 : decode cX7_hand 32 = .ok (.iconst 2, 1) := by decide +kernel
theorem dX7_hand_33 : decode cX7_hand 33 = .ok (.iadd, 1) := by decide +kernel
theorem dX7_hand_34 : decode cX7_hand 34 = .ok (.iaload, 1) := by decide +kernel
theorem dX7_hand_35 : decode cX7_hand 35 = .ok (.imul, 1) := by decide +kernel
theorem dX7_hand_36 : decode cX7_hand 36 = .ok (.aload_n 0, 1) := by decide +kernel
theorem dX7_hand_37 : decode cX7_hand 37 = .ok (.getfield 7, 3) := by decide +kernel
theorem dX7_hand_40 : decode cX7_hand 40 = .ok (.bipush 6, 2) := by decide +kernel
theorem dX7_hand_42 : decode cX7_hand 42 = .ok (.iload_n 1, 1) := by decide +kernel
theorem dX7_hand_43 : decode cX7_hand 43 = .ok (.imul, 1) := by decide +kernel
theorem dX7_hand_44 : decode cX7_hand 44 = .ok (.iaload, 1) := by decide +kernel
theorem dX7_hand_45 : decode cX7_hand 45 = .ok (.iconst 1, 1) := by decide +kernel
theorem dX7_hand_46 : decode cX7_hand 46 = .ok (.if_icmp .ne 9, 3) := by decide +kernel
theorem dX7_hand_49 : decode cX7_hand 49 = .ok (.iload 4, 2) := by decide +kernel
theorem dX7_hand_51 : decode cX7_hand 51 = .ok (.ineg, 1) := by decide +kernel
theorem dX7_hand_52 : decode cX7_hand 52 = .ok (.goto 5, 3) := by decide +kernel
theorem dX7_hand_55 : decode cX7_hand 55 = .ok (.iload 4, 2) := by decide +kernel
theorem dX7_hand_57 : decode cX7_hand 57 = .ok (.iadd, 1) := by decide +kernel
theorem dX7_hand_58 : decode cX7_hand 58 = .ok (.ireturn, 1) := by decide +kernel
set_option maxRecDepth 20000 in
theorem ggX7_isMinute_X7_in : GoodIn wsX7_isMinute wsX7_in := goodIn_r _ [4] (by decide +kernel) (by decide +kernel)
set_option maxRecDepth 20000 in
theorem gX7_isMinute_X7_in : GoodIn wsX7_isMinute (va_wsS RX7 41 yX7_in wsX7_in) := goodIn_app (goodIn_of _ (by decide +kernel)) ggX7_isMinute_X7_in
theorem dX7_isMinute_0 : decode cX7_isMinute 0 = .ok (.iload_n 0, 1) := by decide +kernel
theorem dX7_isMinute_1 : decode cX7_isMinute 1 = .ok (.iconst 0, 1) := by decide +kernel
theorem dX7_isMinute_2 : decode cX7_isMinute 2 = .ok (.sipush 4319, 3) := by decide +kernel
theorem dX7_isMinute_5 : decode cX7_isMinute 5 = .ok (.invokestatic 41, 3) := by decide +kernel
theorem dX7_isMinute_8 : decode cX7_isMinute 8 = .ok (.ireturn, 1) := by decide +kernel
set_option maxRecDepth 20000 in
theorem ggX7_shows_X7_isClock : GoodIn wsX7_shows wsX7_isClock := goodIn_r _ [6, 7, 8, 9, 5, 10, 11, 12, 13, 27, 28, 29, 30, 31, 32, 33, 34, 35, 36, 37, 38, 39, 40, 41, 42, 43, 44, 45, 46, 47, 48, 49, 50, 51, 52] (by decide +kernel) (by decide +kernel)
set_option maxRecDepth 20000 in
theorem gX7_shows_X7_isClock : GoodIn wsX7_shows (wsV RX7 143 RX7 yX7_isClock wsX7_isClock) := goodIn_app (goodIn_of _ (by decide +kernel)) ggX7_shows_X7_isClock
set_option maxRecDepth 20000 in
theorem ggX7_shows_X7_isMinute : GoodIn wsX7_shows wsX7_isMinute := goodIn_r _ [16, 8, 9, 5, 10] (by decide +kernel) (by decide +kernel)
set_option maxRecDepth 20000 in
theorem gX7_shows_X7_isMinute : GoodIn wsX7_shows (va_wsS RX7 150 yX7_isMinute wsX7_isMinute) := goodIn_app (goodIn_of _ (by decide +kernel)) ggX7_shows_X7_isMinute
set_option maxRecDepth 20000 in
theorem ggX7_shows_X7_in : GoodIn wsX7_shows wsX7_in := goodIn_r _ [10] (by decide +kernel) (by decide +kernel)
set_option maxRecDepth 20000 in
theorem gX7_shows_X7_in : GoodIn wsX7_shows (va_wsS RX7 41 yX7_in wsX7_in) := goodIn_app (goodIn_of _ (by decide +kernel)) ggX7_shows_X7_in
set_option maxRecDepth 20000 in
theorem ggX7_shows_X7_hand : GoodIn wsX7_shows wsX7_hand := goodIn_r _ [20, 1, 27, 28, 29, 30, 31, 32, 33, 34, 35, 36, 37, 38, 39, 40, 41, 42, 43, 44, 45, 46, 47, 48, 49, 50, 51, 52] (by decide +kernel) (by decide +kernel)
set_option maxRecDepth 20000 in
theorem gX7_shows_X7_hand : GoodIn wsX7_shows (wsV RX7 153 RX7 yX7_hand wsX7_hand) := goodIn_app (goodIn_of _ (by decide +kernel)) ggX7_shows_X7_hand
set_option maxRecDepth 20000 in
theorem ggX7_shows_X7_down : GoodIn wsX7_shows wsX7_down := goodIn_r _ [23, 24, 25, 5, 26] (by decide +kernel) (by decide +kernel)
set_option maxRecDepth 20000 in
theorem gX7_shows_X7_down : GoodIn wsX7_shows (va_wsS RX7 157 yX7_down wsX7_down) := goodIn_app (goodIn_of _ (by decide +kernel)) ggX7_shows_X7_down
set_option maxRecDepth 20000 in
theorem ggX7_shows_X7_rest : GoodIn wsX7_shows wsX7_rest := goodIn_r _ [26] (by decide +kernel) (by decide +kernel)
set_option maxRecDepth 20000 in
theorem gX7_shows_X7_rest : GoodIn wsX7_shows (va_wsS RX7 146 yX7_rest wsX7_rest) := goodIn_app (goodIn_of _ (by decide +kernel)) ggX7_shows_X7_rest
theorem dX7_shows_0 : decode cX7_shows 0 = .ok (.aload_n 0, 1) := by decide +kernel
theorem dX7_shows_1 : decode cX7_shows 1 = .ok (.iload_n 1, 1) := by decide +kernel
theorem dX7_shows_2 : decode cX7_shows 2 = .ok (.invokevirtual 143, 3) := by decide +kernel
theorem dX7_shows_5 : decode cX7_shows 5 = .ok (.ifCond .ne 6, 3) := by decide +kernel
theorem dX7_shows_8 : decode cX7_shows 8 = .ok (.bipush (-2), 2) := by decide +kernel
theorem dX7_shows_10 : decode cX7_shows 10 = .ok (.ireturn, 1) := by decide +kernel
theorem dX7_shows_11 : decode cX7_shows 11 = .ok (.iload_n 2, 1) := by decide +kernel
theorem dX7_shows_12 : decode cX7_shows 12 = .ok (.invokestatic 150, 3) := by decide +kernel
theorem dX7_shows_15 : decode cX7_shows 15 = .ok (.ifCond .eq 12, 3) := by decide +kernel
theorem dX7_shows_18 : decode cX7_shows 18 = .ok (.iload_n 3, 1) := by decide +kernel
theorem dX7_shows_19 : decode cX7_shows 19 = .ok (.iconst 0, 1) := by decide +kernel
theorem dX7_shows_20 : decode cX7_shows 20 = .ok (.iconst 1, 1) := by decide +kernel
theorem dX7_shows_21 : decode cX7_shows 21 = .ok (.invokestatic 41, 3) := by decide +kernel
theorem dX7_shows_24 : decode cX7_shows 24 = .ok (.ifCond .ne 6, 3) := by decide +kernel
theorem dX7_shows_27 : decode cX7_shows 27 = .ok (.bipush (-3), 2) := by decide +kernel
theorem dX7_shows_29 : decode cX7_shows 29 = .ok (.ireturn, 1) := by decide +kernel
theorem dX7_shows_30 : decode cX7_shows 30 = .ok (.aload_n 0, 1) := by decide +kernel
theorem dX7_shows_31 : decode cX7_shows 31 = .ok (.iload_n 1, 1) := by decide +kernel
theorem dX7_shows_32 : decode cX7_shows 32 = .ok (.iload_n 2, 1) := by decide +kernel
theorem dX7_shows_33 : decode cX7_shows 33 = .ok (.aload_n 0, 1) := by decide +kernel
theorem dX7_shows_34 : decode cX7_shows 34 = .ok (.getfield 7, 3) := by decide +kernel
theorem dX7_shows_37 : decode cX7_shows 37 = .ok (.bipush 6, 2) := by decide +kernel
theorem dX7_shows_39 : decode cX7_shows 39 = .ok (.iload_n 1, 1) := by decide +kernel
theorem dX7_shows_40 : decode cX7_shows 40 = .ok (.imul, 1) := by decide +kernel
theorem dX7_shows_41 : decode cX7_shows 41 = .ok (.iconst 3, 1) := by decide +kernel
theorem dX7_shows_42 : decode cX7_shows 42 = .ok (.iadd, 1) := by decide +kernel
theorem dX7_shows_43 : decode cX7_shows 43 = .ok (.iload_n 3, 1) := by decide +kernel
theorem dX7_shows_44 : decode cX7_shows 44 = .ok (.iadd, 1) := by decide +kernel
theorem dX7_shows_45 : decode cX7_shows 45 = .ok (.iaload, 1) := by decide +kernel
theorem dX7_shows_46 : decode cX7_shows 46 = .ok (.invokevirtual 153, 3) := by decide +kernel
theorem dX7_shows_49 : decode cX7_shows 49 = .ok (.sipush 1440, 3) := by decide +kernel
theorem dX7_shows_52 : decode cX7_shows 52 = .ok (.invokestatic 157, 3) := by decide +kernel
theorem dX7_shows_55 : decode cX7_shows 55 = .ok (.sipush 720, 3) := by decide +kernel
theorem dX7_shows_58 : decode cX7_shows 58 = .ok (.invokestatic 146, 3) := by decide +kernel
theorem dX7_shows_61 : decode cX7_shows 61 = .ok (.ireturn, 1) := by decide +kernel
set_option maxRecDepth 20000 in
theorem ggX7_isBetween_X7_down : GoodIn wsX7_isBetween wsX7_down := goodIn_r _ [4, 5, 6, 3, 7] (by decide +kernel) (by decide +kernel)
set_option maxRecDepth 20000 in
theorem gX7_isBetween_X7_down : GoodIn wsX7_isBetween (va_wsS RX7 157 yX7_down wsX7_down) := goodIn_app (goodIn_of _ (by decide +kernel)) ggX7_isBetween_X7_down
set_option maxRecDepth 20000 in
theorem ggX7_isBetween_X7_rest : GoodIn wsX7_isBetween wsX7_rest := goodIn_r _ [7] (by decide +kernel) (by decide +kernel)
set_option maxRecDepth 20000 in
theorem gX7_isBetween_X7_rest : GoodIn wsX7_isBetween (va_wsS RX7 146 yX7_rest wsX7_rest) := goodIn_app (goodIn_of _ (by decide +kernel)) ggX7_isBetween_X7_rest
theorem dX7_isBetween_0 : decode cX7_isBetween 0 = .ok (.iload_n 0, 1) := by decide +kernel
theorem dX7_isBetween_1 : decode cX7_isBetween 1 = .ok (.iload_n 1, 1) := by decide +kernel
theorem dX7_isBetween_2 : decode cX7_isBetween 2 = .ok (.if_icmp .ge 7, 3) := by decide +kernel
theorem dX7_isBetween_5 : decode cX7_isBetween 5 = .ok (.iload_n 0, 1) := by decide +kernel
theorem dX7_isBetween_6 : decode cX7_isBetween 6 = .ok (.goto 4, 3) := by decide +kernel
theorem dX7_isBetween_9 : decode cX7_isBetween 9 = .ok (.iload_n 1, 1) := by decide +kernel
theorem dX7_isBetween_10 : decode cX7_isBetween 10 = .ok (.sipush 1440, 3) := by decide +kernel
theorem dX7_isBetween_13 : decode cX7_isBetween 13 = .ok (.invokestatic 157, 3) := by decide +kernel
theorem dX7_isBetween_16 : decode cX7_isBetween 16 = .ok (.istore_n 3, 1) := by decide +kernel
theorem dX7_isBetween_17 : decode cX7_isBetween 17 = .ok (.iload_n 0, 1) := by decide +kernel
theorem dX7_isBetween_18 : decode cX7_isBetween 18 = .ok (.iload_n 1, 1) := by decide +kernel
theorem dX7_isBetween_19 : decode cX7_isBetween 19 = .ok (.if_icmp .ge 7, 3) := by decide +kernel
theorem dX7_isBetween_22 : decode cX7_isBetween 22 = .ok (.iload_n 1, 1) := by decide +kernel
theorem dX7_isBetween_23 : decode cX7_isBetween 23 = .ok (.goto 4, 3) := by decide +kernel
theorem dX7_isBetween_26 : decode cX7_isBetween 26 = .ok (.iload_n 0, 1) := by decide +kernel
theorem dX7_isBetween_27 : decode cX7_isBetween 27 = .ok (.sipush 1440, 3) := by decide +kernel
theorem dX7_isBetween_30 : decode cX7_isBetween 30 = .ok (.invokestatic 157, 3) := by decide +kernel
theorem dX7_isBetween_33 : decode cX7_isBetween 33 = .ok (.istore 4, 2) := by decide +kernel
theorem dX7_isBetween_35 : decode cX7_isBetween 35 = .ok (.iload_n 2, 1) := by decide +kernel
theorem dX7_isBetween_36 : decode cX7_isBetween 36 = .ok (.iload_n 3, 1) := by decide +kernel
theorem dX7_isBetween_37 : decode cX7_isBetween 37 = .ok (.isub, 1) := by decide +kernel
theorem dX7_isBetween_38 : decode cX7_isBetween 38 = .ok (.sipush 720, 3) := by decide +kernel
theorem dX7_isBetween_41 : decode cX7_isBetween 41 = .ok (.invokestatic 146, 3) := by decide +kernel
theorem dX7_isBetween_44 : decode cX7_isBetween 44 = .ok (.iload 4, 2) := by decide +kernel
theorem dX7_isBetween_46 : decode cX7_isBetween 46 = .ok (.iload_n 3, 1) := by decide +kernel
theorem dX7_isBetween_47 : decode cX7_isBetween 47 = .ok (.isub, 1) := by decide +kernel
theorem dX7_isBetween_48 : decode cX7_isBetween 48 = .ok (.if_icmp .gt 7, 3) := by decide +kernel
theorem dX7_isBetween_51 : decode cX7_isBetween 51 = .ok (.iconst 1, 1) := by decide +kernel
theorem dX7_isBetween_52 : decode cX7_isBetween 52 = .ok (.goto 4, 3) := by decide +kernel
theorem dX7_isBetween_55 : decode cX7_isBetween 55 = .ok (.iconst 0, 1) := by decide +kernel
theorem dX7_isBetween_56 : decode cX7_isBetween 56 = .ok (.ireturn, 1) := by decide +kernel
set_option maxRecDepth 20000 in
theorem ggX7_canShow_X7_hand : GoodIn wsX7_canShow wsX7_hand := goodIn_r _ [6, 1, 16, 17, 18, 19, 20, 21, 22, 23, 24, 25, 26, 27, 28, 29, 30, 31, 32, 33, 34, 35, 36, 37, 38, 39, 40, 41] (by decide +kernel) (by decide +kernel)
set_option maxRecDepth 20000 in
theorem gX7_canShow_X7_hand : GoodIn wsX7_canShow (wsV RX7 153 RX7 yX7_hand wsX7_hand) := goodIn_app (goodIn_of _ (by decide +kernel)) ggX7_canShow_X7_hand
set_option maxRecDepth 20000 in
theorem ggX7_canShow_X7_isBetween : GoodIn wsX7_canShow wsX7_isBetween := goodIn_r _ [9, 10, 11, 5, 12, 13, 14, 15] (by decide +kernel) (by decide +kernel)
set_option maxRecDepth 20000 in
theorem gX7_canShow_X7_isBetween : GoodIn wsX7_canShow (va_wsS RX7 160 yX7_isBetween wsX7_isBetween) := goodIn_app (goodIn_of _ (by decide +kernel)) ggX7_canShow_X7_isBetween
theorem dX7_canShow_0 : decode cX7_canShow 0 = .ok (.aload_n 0, 1) := by decide +kernel
theorem dX7_canShow_1 : decode cX7_canShow 1 = .ok (.iload_n 1, 1) := by decide +kernel
theorem dX7_canShow_2 : decode cX7_canShow 2 = .ok (.iload_n 2, 1) := by decide +kernel
theorem dX7_canShow_3 : decode cX7_canShow 3 = .ok (.aload_n 0, 1) := by decide +kernel
theorem dX7_canShow_4 : decode cX7_canShow 4 = .ok (.getfield 7, 3) := by decide +kernel
theorem dX7_canShow_7 : decode cX7_canShow 7 = .ok (.bipush 6, 2) := by decide +kernel
theorem dX7_canShow_9 : decode cX7_canShow 9 = .ok (.iload_n 1, 1) := by decide +kernel
theorem dX7_canShow_10 : decode cX7_canShow 10 = .ok (.imul, 1) := by decide +kernel
theorem dX7_canShow_11 : decode cX7_canShow 11 = .ok (.iconst 3, 1) := by decide +kernel
theorem dX7_canShow_12 : decode cX7_canShow 12 = .ok (.iadd, 1) := by decide +kernel
theorem dX7_canShow_13 : decode cX7_canShow 13 = .ok (.iaload, 1) := by decide +kernel
theorem dX7_canShow_14 : decode cX7_canShow 14 = .ok (.invokevirtual 153, 3) := by decide +kernel
theorem dX7_canShow_17 : decode cX7_canShow 17 = .ok (.aload_n 0, 1) := by decide +kernel
theorem dX7_canShow_18 : decode cX7_canShow 18 = .ok (.iload_n 1, 1) := by decide +kernel
theorem dX7_canShow_19 : decode cX7_canShow 19 = .ok (.iload_n 2, 1) := by decide +kernel
theorem dX7_canShow_20 : decode cX7_canShow 20 = .ok (.aload_n 0, 1) := by decide +kernel
theorem dX7_canShow_21 : decode cX7_canShow 21 = .ok (.getfield 7, 3) := by decide +kernel
theorem dX7_canShow_24 : decode cX7_canShow 24 = .ok (.bipush 6, 2) := by decide +kernel
theorem dX7_canShow_26 : decode cX7_canShow 26 = .ok (.iload_n 1, 1) := by decide +kernel
theorem dX7_canShow_27 : decode cX7_canShow 27 = .ok (.imul, 1) := by decide +kernel
theorem dX7_canShow_28 : decode cX7_canShow 28 = .ok (.iconst 4, 1) := by decide +kernel
theorem dX7_canShow_29 : decode cX7_canShow 29 = .ok (.iadd, 1) := by decide +kernel
theorem dX7_canShow_30 : decode cX7_canShow 30 = .ok (.iaload, 1) := by decide +kernel
theorem dX7_canShow_31 : decode cX7_canShow 31 = .ok (.invokevirtual 153, 3) := by decide +kernel
theorem dX7_canShow_34 : decode cX7_canShow 34 = .ok (.iload_n 3, 1) := by decide +kernel
theorem dX7_canShow_35 : decode cX7_canShow 35 = .ok (.invokestatic 160, 3) := by decide +kernel
theorem dX7_canShow_38 : decode cX7_canShow 38 = .ok (.ireturn, 1) := by decide +kernel
set_option maxRecDepth 20000 in
theorem ggX7_can_X7_isClock : GoodIn wsX7_can wsX7_isClock := goodIn_r _ [5, 6, 7, 8, 4, 9, 10, 11, 12, 34, 35, 36, 37, 38, 39, 40, 41, 42, 43, 44, 45, 46, 47, 48, 49, 50, 51, 52, 53, 54, 55, 56, 57, 58, 59] (by decide +kernel) (by decide +kernel)
set_option maxRecDepth 20000 in
theorem gX7_can_X7_isClock : GoodIn wsX7_can (wsV RX7 143 RX7 yX7_isClock wsX7_isClock) := goodIn_app (goodIn_of _ (by decide +kernel)) ggX7_can_X7_isClock
set_option maxRecDepth 20000 in
theorem ggX7_can_X7_isMinute : GoodIn wsX7_can wsX7_isMinute := goodIn_r _ [15, 7, 8, 4, 9] (by decide +kernel) (by decide +kernel)
set_option maxRecDepth 20000 in
theorem gX7_can_X7_isMinute : GoodIn wsX7_can (va_wsS RX7 150 yX7_isMinute wsX7_isMinute) := goodIn_app (goodIn_of _ (by decide +kernel)) ggX7_can_X7_isMinute
set_option maxRecDepth 20000 in
theorem ggX7_can_X7_in : GoodIn wsX7_can wsX7_in := goodIn_r _ [9] (by decide +kernel) (by decide +kernel)
set_option maxRecDepth 20000 in
theorem gX7_can_X7_in : GoodIn wsX7_can (va_wsS RX7 41 yX7_in wsX7_in) := goodIn_app (goodIn_of _ (by decide +kernel)) ggX7_can_X7_in
set_option maxRecDepth 20000 in
theorem ggX7_can_X7_canShow : GoodIn wsX7_can wsX7_canShow := goodIn_r _ [19, 20, 21, 22, 23, 4, 24, 25, 26, 27, 28, 29, 30, 31, 32, 33, 34, 35, 36, 37, 38, 39, 40, 41, 42, 43, 44, 45, 46, 47, 48, 49, 50, 51, 52, 53, 54, 55, 56, 57, 58, 59] (by decide +kernel) (by decide +kernel)
set_option maxRecDepth 20000 in
theorem gX7_can_X7_canShow : GoodIn wsX7_can (wsV RX7 163 RX7 yX7_canShow wsX7_canShow) := goodIn_app (goodIn_of _ (by decide +kernel)) ggX7_can_X7_canShow
theorem dX7_can_0 : decode cX7_can 0 = .ok (.aload_n 0, 1) := by decide +kernel
theorem dX7_can_1 : decode cX7_can 1 = .ok (.iload_n 1, 1) := by decide +kernel
theorem dX7_can_2 : decode cX7_can 2 = .ok (.invokevirtual 143, 3) := by decide +kernel
theorem dX7_can_5 : decode cX7_can 5 = .ok (.ifCond .ne 6, 3) := by decide +kernel
theorem dX7_can_8 : decode cX7_can 8 = .ok (.bipush (-2), 2) := by decide +kernel
theorem dX7_can_10 : decode cX7_can 10 = .ok (.ireturn, 1) := by decide +kernel
theorem dX7_can_11 : decode cX7_can 11 = .ok (.iload_n 2, 1) := by decide +kernel
theorem dX7_can_12 : decode cX7_can 12 = .ok (.invokestatic 150, 3) := by decide +kernel
theorem dX7_can_15 : decode cX7_can 15 = .ok (.ifCond .eq 14, 3) := by decide +kernel
theorem dX7_can_18 : decode cX7_can 18 = .ok (.iload_n 3, 1) := by decide +kernel
theorem dX7_can_19 : decode cX7_can 19 = .ok (.iconst 0, 1) := by decide +kernel
theorem dX7_can_20 : decode cX7_can 20 = .ok (.sipush 719, 3) := by decide +kernel
theorem dX7_can_23 : decode cX7_can 23 = .ok (.invokestatic 41, 3) := by decide +kernel
theorem dX7_can_26 : decode cX7_can 26 = .ok (.ifCond .ne 6, 3) := by decide +kernel
theorem dX7_can_29 : decode cX7_can 29 = .ok (.bipush (-3), 2) := by decide +kernel
theorem dX7_can_31 : decode cX7_can 31 = .ok (.ireturn, 1) := by decide +kernel
theorem dX7_can_32 : decode cX7_can 32 = .ok (.aload_n 0, 1) := by decide +kernel
theorem dX7_can_33 : decode cX7_can 33 = .ok (.iload_n 1, 1) := by decide +kernel
theorem dX7_can_34 : decode cX7_can 34 = .ok (.iload_n 2, 1) := by decide +kernel
theorem dX7_can_35 : decode cX7_can 35 = .ok (.iload_n 3, 1) := by decide +kernel
theorem dX7_can_36 : decode cX7_can 36 = .ok (.invokevirtual 163, 3) := by decide +kernel
theorem dX7_can_39 : decode cX7_can 39 = .ok (.ifCond .eq 7, 3) := by decide +kernel
theorem dX7_can_42 : decode cX7_can 42 = .ok (.iconst 1, 1) := by decide +kernel
theorem dX7_can_43 : decode cX7_can 43 = .ok (.goto 4, 3) := by decide +kernel
theorem dX7_can_46 : decode cX7_can 46 = .ok (.iconst 0, 1) := by decide +kernel
theorem dX7_can_47 : decode cX7_can 47 = .ok (.ireturn, 1) := by decide +kernel
set_option maxRecDepth 20000 in
theorem ggX7_fitAt_X7_has : GoodIn wsX7_fitAt wsX7_has := goodIn_r _ [6] (by decide +kernel) (by decide +kernel)
set_option maxRecDepth 20000 in
theorem gX7_fitAt_X7_has : GoodIn wsX7_fitAt (va_wsS RX7 49 yX7_has wsX7_has) := goodIn_app (goodIn_of _ (by decide +kernel)) ggX7_fitAt_X7_has
set_option maxRecDepth 20000 in
theorem ggX7_fitAt_X7_canShow : GoodIn wsX7_fitAt wsX7_canShow := goodIn_r _ [10, 2, 11, 12, 13, 5, 14, 15, 16, 17, 18, 19, 20, 21, 22, 23, 24, 25, 26, 27, 28, 29, 30, 31, 32, 33, 34, 35, 36, 37, 38, 39, 40, 41, 42, 43, 44, 45, 46, 47, 48, 49] (by decide +kernel) (by decide +kernel)
set_option maxRecDepth 20000 in
theorem gX7_fitAt_X7_canShow : GoodIn wsX7_fitAt (wsV RX7 163 RX7 yX7_canShow wsX7_canShow) := goodIn_app (goodIn_of _ (by decide +kernel)) ggX7_fitAt_X7_canShow
theorem dX7_fitAt_0 : decode cX7_fitAt 0 = .ok (.iconst 0, 1) := by decide +kernel
theorem dX7_fitAt_1 : decode cX7_fitAt 1 = .ok (.istore_n 2, 1) := by decide +kernel
theorem dX7_fitAt_2 : decode cX7_fitAt 2 = .ok (.iconst 0, 1) := by decide +kernel
theorem dX7_fitAt_3 : decode cX7_fitAt 3 = .ok (.istore_n 3, 1) := by decide +kernel
theorem dX7_fitAt_4 : decode cX7_fitAt 4 = .ok (.iload_n 3, 1) := by decide +kernel
theorem dX7_fitAt_5 : decode cX7_fitAt 5 = .ok (.bipush 8, 2) := by decide +kernel
theorem dX7_fitAt_7 : decode cX7_fitAt 7 = .ok (.if_icmp .ge 50, 3) := by decide +kernel
theorem dX7_fitAt_10 : decode cX7_fitAt 10 = .ok (.iload_n 2, 1) := by decide +kernel
theorem dX7_fitAt_11 : decode cX7_fitAt 11 = .ok (.aload_n 0, 1) := by decide +kernel
theorem dX7_fitAt_12 : decode cX7_fitAt 12 = .ok (.getfield 136, 3) := by decide +kernel
theorem dX7_fitAt_15 : decode cX7_fitAt 15 = .ok (.iload_n 3, 1) := by decide +kernel
theorem dX7_fitAt_16 : decode cX7_fitAt 16 = .ok (.invokestatic 49, 3) := by decide +kernel
theorem dX7_fitAt_19 : decode cX7_fitAt 19 = .ok (.ifCond .eq 29, 3) := by decide +kernel
theorem dX7_fitAt_22 : decode cX7_fitAt 22 = .ok (.aload_n 0, 1) := by decide +kernel
theorem dX7_fitAt_23 : decode cX7_fitAt 23 = .ok (.iload_n 3, 1) := by decide +kernel
theorem dX7_fitAt_24 : decode cX7_fitAt 24 = .ok (.iload_n 1, 1) := by decide +kernel
theorem dX7_fitAt_25 : decode cX7_fitAt 25 = .ok (.aload_n 0, 1) := by decide +kernel
theorem dX7_fitAt_26 : decode cX7_fitAt 26 = .ok (.getfield 7, 3) := by decide +kernel
theorem dX7_fitAt_29 : decode cX7_fitAt 29 = .ok (.bipush 6, 2) := by decide +kernel
theorem dX7_fitAt_31 : decode cX7_fitAt 31 = .ok (.iload_n 3, 1) := by decide +kernel
theorem dX7_fitAt_32 : decode cX7_fitAt 32 = .ok (.imul, 1) := by decide +kernel
theorem dX7_fitAt_33 : decode cX7_fitAt 33 = .ok (.iconst 5, 1) := by decide +kernel
theorem dX7_fitAt_34 : decode cX7_fitAt 34 = .ok (.iadd, 1) := by decide +kernel
theorem dX7_fitAt_35 : decode cX7_fitAt 35 = .ok (.iaload, 1) := by decide +kernel
theorem dX7_fitAt_36 : decode cX7_fitAt 36 = .ok (.invokevirtual 163, 3) := by decide +kernel
theorem dX7_fitAt_39 : decode cX7_fitAt 39 = .ok (.ifCond .eq 9, 3) := by decide +kernel
theorem dX7_fitAt_42 : decode cX7_fitAt 42 = .ok (.iconst 1, 1) := by decide +kernel
theorem dX7_fitAt_43 : decode cX7_fitAt 43 = .ok (.iload_n 3, 1) := by decide +kernel
theorem dX7_fitAt_44 : decode cX7_fitAt 44 = .ok (.ishl, 1) := by decide +kernel
theorem dX7_fitAt_45 : decode cX7_fitAt 45 = .ok (.goto 4, 3) := by decide +kernel
theorem dX7_fitAt_48 : decode cX7_fitAt 48 = .ok (.iconst 0, 1) := by decide +kernel
theorem dX7_fitAt_49 : decode cX7_fitAt 49 = .ok (.ior, 1) := by decide +kernel
theorem dX7_fitAt_50 : decode cX7_fitAt 50 = .ok (.istore_n 2, 1) := by decide +kernel
theorem dX7_fitAt_51 : decode cX7_fitAt 51 = .ok (.iinc 3 1, 3) := by decide +kernel
theorem dX7_fitAt_54 : decode cX7_fitAt 54 = .ok (.goto (-50), 3) := by decide +kernel
theorem dX7_fitAt_57 : decode cX7_fitAt 57 = .ok (.iload_n 2, 1) := by decide +kernel
theorem dX7_fitAt_58 : decode cX7_fitAt 58 = .ok (.ireturn, 1) := by decide +kernel
set_option maxRecDepth 20000 in
theorem ggX7_fits_X7_isMinute : GoodIn wsX7_fits wsX7_isMinute := goodIn_r _ [4, 5, 6, 3, 7] (by decide +kernel) (by decide +kernel)
set_option maxRecDepth 20000 in
theorem gX7_fits_X7_isMinute : GoodIn wsX7_fits (va_wsS RX7 150 yX7_isMinute wsX7_isMinute) := goodIn_app (goodIn_of _ (by decide +kernel)) ggX7_fits_X7_isMinute
set_option maxRecDepth 20000 in
theorem ggX7_fits_X7_fitAt : GoodIn wsX7_fits wsX7_fitAt := goodIn_r _ [11, 12, 13, 14, 15, 3, 16, 17, 18, 19, 20, 21, 22, 23, 24, 25, 26, 27, 28, 29, 30, 31, 32, 33, 34, 35, 36, 37, 38, 39, 40, 41, 42, 43, 44, 45, 46, 47, 48, 49, 50, 51, 52, 53, 54, 55, 56, 57, 58, 59] (by decide +kernel) (by decide +kernel)
set_option maxRecDepth 20000 in
theorem gX7_fits_X7_fitAt : GoodIn wsX7_fits (wsV RX7 166 RX7 yX7_fitAt wsX7_fitAt) := goodIn_app (goodIn_of _ (by decide +kernel)) ggX7_fits_X7_fitAt
theorem dX7_fits_0 : decode cX7_fits 0 = .ok (.iload_n 1, 1) := by decide +kernel
theorem dX7_fits_1 : decode cX7_fits 1 = .ok (.invokestatic 150, 3) := by decide +kernel
theorem dX7_fits_4 : decode cX7_fits 4 = .ok (.ifCond .eq 11, 3) := by decide +kernel
theorem dX7_fits_7 : decode cX7_fits 7 = .ok (.aload_n 0, 1) := by decide +kernel
theorem dX7_fits_8 : decode cX7_fits 8 = .ok (.iload_n 1, 1) := by decide +kernel
theorem dX7_fits_9 : decode cX7_fits 9 = .ok (.invokevirtual 166, 3) := by decide +kernel
theorem dX7_fits_12 : decode cX7_fits 12 = .ok (.goto 5, 3) := by decide +kernel
theorem dX7_fits_15 : decode cX7_fits 15 = .ok (.bipush (-3), 2) := by decide +kernel
theorem dX7_fits_17 : decode cX7_fits 17 = .ok (.ireturn, 1) := by decide +kernel
set_option maxRecDepth 20000 in
theorem ggX7_layFits_X7_fitAt : GoodIn wsX7_layFits wsX7_fitAt := goodIn_r _ [6, 7, 8, 9, 10, 5, 11, 12, 13, 14, 15, 16, 17, 18, 19, 20, 21, 22, 23, 24, 25, 26, 27, 28, 29, 30, 31, 32, 33, 34, 35, 36, 37, 38, 39, 40, 41, 42, 43, 44, 45, 46, 47, 48, 49, 50, 51, 52, 53, 54] (by decide +kernel) (by decide +kernel)
set_option maxRecDepth 20000 in
theorem gX7_layFits_X7_fitAt : GoodIn wsX7_layFits (wsV RX7 166 RX7 yX7_fitAt wsX7_fitAt) := goodIn_app (goodIn_of _ (by decide +kernel)) ggX7_layFits_X7_fitAt
theorem dX7_layFits_0 : decode cX7_layFits 0 = .ok (.iconst 0, 1) := by decide +kernel
theorem dX7_layFits_1 : decode cX7_layFits 1 = .ok (.istore_n 1, 1) := by decide +kernel
theorem dX7_layFits_2 : decode cX7_layFits 2 = .ok (.iload_n 1, 1) := by decide +kernel
theorem dX7_layFits_3 : decode cX7_layFits 3 = .ok (.sipush 4320, 3) := by decide +kernel
theorem dX7_layFits_6 : decode cX7_layFits 6 = .ok (.if_icmp .ge 20, 3) := by decide +kernel
theorem dX7_layFits_9 : decode cX7_layFits 9 = .ok (.aload_n 0, 1) := by decide +kernel
theorem dX7_layFits_10 : decode cX7_layFits 10 = .ok (.getfield 22, 3) := by decide +kernel
theorem dX7_layFits_13 : decode cX7_layFits 13 = .ok (.iload_n 1, 1) := by decide +kernel
theorem dX7_layFits_14 : decode cX7_layFits 14 = .ok (.aload_n 0, 1) := by decide +kernel
theorem dX7_layFits_15 : decode cX7_layFits 15 = .ok (.iload_n 1, 1) := by decide +kernel
theorem dX7_layFits_16 : decode cX7_layFits 16 = .ok (.invokevirtual 166, 3) := by decide +kernel
theorem dX7_layFits_19 : decode cX7_layFits 19 = .ok (.iastore, 1) := by decide +kernel
theorem dX7_layFits_20 : decode cX7_layFits 20 = .ok (.iinc 1 1, 3) := by decide +kernel
theorem dX7_layFits_23 : decode cX7_layFits 23 = .ok (.goto (-21), 3) := by decide +kernel
theorem dX7_layFits_26 : decode cX7_layFits 26 = .ok (.return_, 1) := by decide +kernel
set_option maxRecDepth 20000 in
theorem ggX7_times_X7_in : GoodIn wsX7_times wsX7_in := goodIn_r _ [6] (by decide +kernel) (by decide +kernel)
set_option maxRecDepth 20000 in
theorem gX7_times_X7_in : GoodIn wsX7_times (va_wsS RX7 41 yX7_in wsX7_in) := goodIn_app (goodIn_of _ (by decide +kernel)) ggX7_times_X7_in
set_option maxRecDepth 20000 in
theorem ggX7_times_X7_layFits : GoodIn wsX7_times wsX7_layFits := goodIn_r _ [10, 1, 11, 12, 13, 5, 14, 2, 15, 16, 17, 18, 19, 20, 21, 22, 23, 24, 25, 26, 27, 28, 29, 30, 31, 32, 33, 34, 35, 36, 37, 38, 39, 40, 41, 42, 43, 44, 45, 46, 47, 48, 49, 50, 51, 52, 53, 54, 55, 56, 57, 58, 59, 60, 61] (by decide +kernel) (by decide +kernel)
set_option maxRecDepth 20000 in
theorem gX7_times_X7_layFits : GoodIn wsX7_times (wsV RX7 170 RX7 yX7_layFits wsX7_layFits) := goodIn_app (goodIn_of _ (by decide +kernel)) ggX7_times_X7_layFits
theorem dX7_times_0 : decode cX7_times 0 = .ok (.iload_n 1, 1) := by decide +kernel
theorem dX7_times_1 : decode cX7_times 1 = .ok (.iconst 0, 1) := by decide +kernel
theorem dX7_times_2 : decode cX7_times 2 = .ok (.iconst 3, 1) := by decide +kernel
theorem dX7_times_3 : decode cX7_times 3 = .ok (.invokestatic 41, 3) := by decide +kernel
theorem dX7_times_6 : decode cX7_times 6 = .ok (.ifCond .ne 6, 3) := by decide +kernel
theorem dX7_times_9 : decode cX7_times 9 = .ok (.bipush (-3), 2) := by decide +kernel
theorem dX7_times_11 : decode cX7_times 11 = .ok (.ireturn, 1) := by decide +kernel
theorem dX7_times_12 : decode cX7_times 12 = .ok (.aload_n 0, 1) := by decide +kernel
theorem dX7_times_13 : decode cX7_times 13 = .ok (.invokevirtual 170, 3) := by decide +kernel
theorem dX7_times_16 : decode cX7_times 16 = .ok (.iconst 0, 1) := by decide +kernel
theorem dX7_times_17 : decode cX7_times 17 = .ok (.istore_n 2, 1) := by decide +kernel
theorem dX7_times_18 : decode cX7_times 18 = .ok (.iconst (-1), 1) := by decide +kernel
theorem dX7_times_19 : decode cX7_times 19 = .ok (.istore_n 3, 1) := by decide +kernel
theorem dX7_times_20 : decode cX7_times 20 = .ok (.iconst (-1), 1) := by decide +kernel
theorem dX7_times_21 : decode cX7_times 21 = .ok (.istore 4, 2) := by decide +kernel
theorem dX7_times_23 : decode cX7_times 23 = .ok (.iconst 0, 1) := by decide +kernel
theorem dX7_times_24 : decode cX7_times 24 = .ok (.istore 5, 2) := by decide +kernel
theorem dX7_times_26 : decode cX7_times 26 = .ok (.iconst 0, 1) := by decide +kernel
theorem dX7_times_27 : decode cX7_times 27 = .ok (.istore 6, 2) := by decide +kernel
theorem dX7_times_29 : decode cX7_times 29 = .ok (.iload 6, 2) := by decide +kernel
theorem dX7_times_31 : decode cX7_times 31 = .ok (.sipush 4320, 3) := by decide +kernel
theorem dX7_times_34 : decode cX7_times 34 = .ok (.if_icmp .ge 64, 3) := by decide +kernel
theorem dX7_times_37 : decode cX7_times 37 = .ok (.aload_n 0, 1) := by decide +kernel
theorem dX7_times_38 : decode cX7_times 38 = .ok (.getfield 22, 3) := by decide +kernel
theorem dX7_times_41 : decode cX7_times 41 = .ok (.iload 6, 2) := by decide +kernel
theorem dX7_times_43 : decode cX7_times 43 = .ok (.iaload, 1) := by decide +kernel
theorem dX7_times_44 : decode cX7_times 44 = .ok (.aload_n 0, 1) := by decide +kernel
theorem dX7_times_45 : decode cX7_times 45 = .ok (.getfield 136, 3) := by decide +kernel
theorem dX7_times_48 : decode cX7_times 48 = .ok (.if_icmp .ne 44, 3) := by decide +kernel
theorem dX7_times_51 : decode cX7_times 51 = .ok (.iload 5, 2) := by decide +kernel
theorem dX7_times_53 : decode cX7_times 53 = .ok (.iload 4, 2) := by decide +kernel
theorem dX7_times_55 : decode cX7_times 55 = .ok (.iload 6, 2) := by decide +kernel
theorem dX7_times_57 : decode cX7_times 57 = .ok (.iconst 1, 1) := by decide +kernel
theorem dX7_times_58 : decode cX7_times 58 = .ok (.isub, 1) := by decide +kernel
theorem dX7_times_59 : decode cX7_times 59 = .ok (.if_icmp .ne 11, 3) := by decide +kernel
theorem dX7_times_62 : decode cX7_times 62 = .ok (.iload_n 2, 1) := by decide +kernel
theorem dX7_times_63 : decode cX7_times 63 = .ok (.ifCond .le 7, 3) := by decide +kernel
theorem dX7_times_66 : decode cX7_times 66 = .ok (.iconst 0, 1) := by decide +kernel
theorem dX7_times_67 : decode cX7_times 67 = .ok (.goto 4, 3) := by decide +kernel
theorem dX7_times_70 : decode cX7_times 70 = .ok (.iconst 1, 1) := by decide +kernel
theorem dX7_times_71 : decode cX7_times 71 = .ok (.iadd, 1) := by decide +kernel
theorem dX7_times_72 : decode cX7_times 72 = .ok (.istore 5, 2) := by decide +kernel
theorem dX7_times_74 : decode cX7_times 74 = .ok (.iload_n 2, 1) := by decide +kernel
theorem dX7_times_75 : decode cX7_times 75 = .ok (.ifCond .ne 8, 3) := by decide +kernel
theorem dX7_times_78 : decode cX7_times 78 = .ok (.iload 6, 2) := by decide +kernel
theorem dX7_times_80 : decode cX7_times 80 = .ok (.goto 4, 3) := by decide +kernel
theorem dX7_times_83 : decode cX7_times 83 = .ok (.iload_n 3, 1) := by decide +kernel
theorem dX7_times_84 : decode cX7_times 84 = .ok (.istore_n 3, 1) := by decide +kernel
theorem dX7_times_85 : decode cX7_times 85 = .ok (.iload 6, 2) := by decide +kernel
theorem dX7_times_87 : decode cX7_times 87 = .ok (.istore 4, 2) := by decide +kernel
theorem dX7_times_89 : decode cX7_times 89 = .ok (.iinc 2 1, 3) := by decide +kernel
theorem dX7_times_92 : decode cX7_times 92 = .ok (.iinc 6 1, 3) := by decide +kernel
theorem dX7_times_95 : decode cX7_times 95 = .ok (.goto (-66), 3) := by decide +kernel
theorem dX7_times_98 : decode cX7_times 98 = .ok (.iload_n 1, 1) := by decide +kernel
theorem dX7_times_99 : decode cX7_times 99 = .ok (.ifCond .ne 7, 3) := by decide +kernel
theorem dX7_times_102 : decode cX7_times 102 = .ok (.iload_n 2, 1) := by decide +kernel
theorem dX7_times_103 : decode cX7_times 103 = .ok (.goto 24, 3) := by decide +kernel
theorem dX7_times_106 : decode cX7_times 106 = .ok (.iload_n 1, 1) := by decide +kernel
theorem dX7_times_107 : decode cX7_times 107 = .ok (.iconst 1, 1) := by decide +kernel
theorem dX7_times_108 : decode cX7_times 108 = .ok (.if_icmp .ne 7, 3) := by decide +kernel
theorem dX7_times_111 : decode cX7_times 111 = .ok (.iload_n 3, 1) := by decide +kernel
theorem dX7_times_112 : decode cX7_times 112 = .ok (.goto 15, 3) := by decide +kernel
theorem dX7_times_115 : decode cX7_times 115 = .ok (.iload_n 1, 1) := by decide +kernel
theorem dX7_times_116 : decode cX7_times 116 = .ok (.iconst 2, 1) := by decide +kernel
theorem dX7_times_117 : decode cX7_times 117 = .ok (.if_icmp .ne 8, 3) := by decide +kernel
theorem dX7_times_120 : decode cX7_times 120 = .ok (.iload 4, 2) := by decide +kernel
theorem dX7_times_122 : decode cX7_times 122 = .ok (.goto 5, 3) := by decide +kernel
theorem dX7_times_125 : decode cX7_times 125 = .ok (.iload 5, 2) := by decide +kernel
theorem dX7_times_127 : decode cX7_times 127 = .ok (.ireturn, 1) := by decide +kernel
set_option maxRecDepth 20000 in
theorem ggX7_liars_X7_in : GoodIn wsX7_liars wsX7_in := goodIn_r _ [6] (by decide +kernel) (by decide +kernel)
set_option maxRecDepth 20000 in
theorem gX7_liars_X7_in : GoodIn wsX7_liars (va_wsS RX7 41 yX7_in wsX7_in) := goodIn_app (goodIn_of _ (by decide +kernel)) ggX7_liars_X7_in
set_option maxRecDepth 20000 in
theorem ggX7_liars_X7_layFits : GoodIn wsX7_liars wsX7_layFits := goodIn_r _ [10, 2, 11, 12, 13, 5, 14, 1, 15, 16, 17, 18, 19, 20, 21, 22, 23, 24, 25, 26, 27, 28, 29, 30, 31, 32, 33, 34, 35, 39, 40, 41, 42, 43, 44, 45, 46, 47, 48, 49, 50, 51, 52, 53, 54, 55, 56, 57, 58, 59, 60, 61, 62, 63, 64] (by decide +kernel) (by decide +kernel)
set_option maxRecDepth 20000 in
theorem gX7_liars_X7_layFits : GoodIn wsX7_liars (wsV RX7 170 RX7 yX7_layFits wsX7_layFits) := goodIn_app (goodIn_of _ (by decide +kernel)) ggX7_liars_X7_layFits
set_option maxRecDepth 20000 in
theorem ggX7_liars_X7_bits : GoodIn wsX7_liars wsX7_bits := goodIn_r _ [38] (by decide +kernel) (by decide +kernel)
set_option maxRecDepth 20000 in
theorem gX7_liars_X7_bits : GoodIn wsX7_liars (va_wsS RX7 173 yX7_bits wsX7_bits) := goodIn_app (goodIn_of _ (by decide +kernel)) ggX7_liars_X7_bits
theorem dX7_liars_0 : decode cX7_liars 0 = .ok (.iload_n 1, 1) := by decide +kernel
theorem dX7_liars_1 : decode cX7_liars 1 = .ok (.iconst 0, 1) := by decide +kernel
theorem dX7_liars_2 : decode cX7_liars 2 = .ok (.iconst 2, 1) := by decide +kernel
theorem dX7_liars_3 : decode cX7_liars 3 = .ok (.invokestatic 41, 3) := by decide +kernel
theorem dX7_liars_6 : decode cX7_liars 6 = .ok (.ifCond .ne 6, 3) := by decide +kernel
theorem dX7_liars_9 : decode cX7_liars 9 = .ok (.bipush (-3), 2) := by decide +kernel
theorem dX7_liars_11 : decode cX7_liars 11 = .ok (.ireturn, 1) := by decide +kernel
theorem dX7_liars_12 : decode cX7_liars 12 = .ok (.aload_n 0, 1) := by decide +kernel
theorem dX7_liars_13 : decode cX7_liars 13 = .ok (.invokevirtual 170, 3) := by decide +kernel
theorem dX7_liars_16 : decode cX7_liars 16 = .ok (.aload_n 0, 1) := by decide +kernel
theorem dX7_liars_17 : decode cX7_liars 17 = .ok (.getfield 136, 3) := by decide +kernel
theorem dX7_liars_20 : decode cX7_liars 20 = .ok (.aload_n 0, 1) := by decide +kernel
theorem dX7_liars_21 : decode cX7_liars 21 = .ok (.getfield 22, 3) := by decide +kernel
theorem dX7_liars_24 : decode cX7_liars 24 = .ok (.iconst 0, 1) := by decide +kernel
theorem dX7_liars_25 : decode cX7_liars 25 = .ok (.iaload, 1) := by decide +kernel
theorem dX7_liars_26 : decode cX7_liars 26 = .ok (.iconst (-1), 1) := by decide +kernel
theorem dX7_liars_27 : decode cX7_liars 27 = .ok (.ixor, 1) := by decide +kernel
theorem dX7_liars_28 : decode cX7_liars 28 = .ok (.iand, 1) := by decide +kernel
theorem dX7_liars_29 : decode cX7_liars 29 = .ok (.istore_n 2, 1) := by decide +kernel
theorem dX7_liars_30 : decode cX7_liars 30 = .ok (.iconst 0, 1) := by decide +kernel
theorem dX7_liars_31 : decode cX7_liars 31 = .ok (.istore_n 3, 1) := by decide +kernel
theorem dX7_liars_32 : decode cX7_liars 32 = .ok (.iconst 1, 1) := by decide +kernel
theorem dX7_liars_33 : decode cX7_liars 33 = .ok (.istore 4, 2) := by decide +kernel
theorem dX7_liars_35 : decode cX7_liars 35 = .ok (.iload 4, 2) := by decide +kernel
theorem dX7_liars_37 : decode cX7_liars 37 = .ok (.sipush 4320, 3) := by decide +kernel
theorem dX7_liars_40 : decode cX7_liars 40 = .ok (.if_icmp .ge 61, 3) := by decide +kernel
theorem dX7_liars_43 : decode cX7_liars 43 = .ok (.aload_n 0, 1) := by decide +kernel
theorem dX7_liars_44 : decode cX7_liars 44 = .ok (.getfield 136, 3) := by decide +kernel
theorem dX7_liars_47 : decode cX7_liars 47 = .ok (.aload_n 0, 1) := by decide +kernel
theorem dX7_liars_48 : decode cX7_liars 48 = .ok (.getfield 22, 3) := by decide +kernel
theorem dX7_liars_51 : decode cX7_liars 51 = .ok (.iload 4, 2) := by decide +kernel
theorem dX7_liars_53 : decode cX7_liars 53 = .ok (.iaload, 1) := by decide +kernel
theorem dX7_liars_54 : decode cX7_liars 54 = .ok (.iconst (-1), 1) := by decide +kernel
theorem dX7_liars_55 : decode cX7_liars 55 = .ok (.ixor, 1) := by decide +kernel
theorem dX7_liars_56 : decode cX7_liars 56 = .ok (.iand, 1) := by decide +kernel
theorem dX7_liars_57 : decode cX7_liars 57 = .ok (.istore 5, 2) := by decide +kernel
theorem dX7_liars_59 : decode cX7_liars 59 = .ok (.iload 5, 2) := by decide +kernel
theorem dX7_liars_61 : decode cX7_liars 61 = .ok (.invokestatic 173, 3) := by decide +kernel
theorem dX7_liars_64 : decode cX7_liars 64 = .ok (.iload_n 2, 1) := by decide +kernel
theorem dX7_liars_65 : decode cX7_liars 65 = .ok (.invokestatic 173, 3) := by decide +kernel
theorem dX7_liars_68 : decode cX7_liars 68 = .ok (.if_icmp .lt 21, 3) := by decide +kernel
theorem dX7_liars_71 : decode cX7_liars 71 = .ok (.iload 5, 2) := by decide +kernel
theorem dX7_liars_73 : decode cX7_liars 73 = .ok (.invokestatic 173, 3) := by decide +kernel
theorem dX7_liars_76 : decode cX7_liars 76 = .ok (.iload_n 2, 1) := by decide +kernel
theorem dX7_liars_77 : decode cX7_liars 77 = .ok (.invokestatic 173, 3) := by decide +kernel
theorem dX7_liars_80 : decode cX7_liars 80 = .ok (.if_icmp .ne 15, 3) := by decide +kernel
theorem dX7_liars_83 : decode cX7_liars 83 = .ok (.iload 5, 2) := by decide +kernel
theorem dX7_liars_85 : decode cX7_liars 85 = .ok (.iload_n 2, 1) := by decide +kernel
theorem dX7_liars_86 : decode cX7_liars 86 = .ok (.if_icmp .ge 9, 3) := by decide +kernel
theorem dX7_liars_89 : decode cX7_liars 89 = .ok (.iload 5, 2) := by decide +kernel
theorem dX7_liars_91 : decode cX7_liars 91 = .ok (.istore_n 2, 1) := by decide +kernel
theorem dX7_liars_92 : decode cX7_liars 92 = .ok (.iload 4, 2) := by decide +kernel
theorem dX7_liars_94 : decode cX7_liars 94 = .ok (.istore_n 3, 1) := by decide +kernel
theorem dX7_liars_95 : decode cX7_liars 95 = .ok (.iinc 4 1, 3) := by decide +kernel
theorem dX7_liars_98 : decode cX7_liars 98 = .ok (.goto (-63), 3) := by decide +kernel
theorem dX7_liars_101 : decode cX7_liars 101 = .ok (.iload_n 1, 1) := by decide +kernel
theorem dX7_liars_102 : decode cX7_liars 102 = .ok (.ifCond .ne 10, 3) := by decide +kernel
theorem dX7_liars_105 : decode cX7_liars 105 = .ok (.iload_n 2, 1) := by decide +kernel
theorem dX7_liars_106 : decode cX7_liars 106 = .ok (.invokestatic 173, 3) := by decide +kernel
theorem dX7_liars_109 : decode cX7_liars 109 = .ok (.goto 13, 3) := by decide +kernel
theorem dX7_liars_112 : decode cX7_liars 112 = .ok (.iload_n 1, 1) := by decide +kernel
theorem dX7_liars_113 : decode cX7_liars 113 = .ok (.iconst 1, 1) := by decide +kernel
theorem dX7_liars_114 : decode cX7_liars 114 = .ok (.if_icmp .ne 7, 3) := by decide +kernel
theorem dX7_liars_117 : decode cX7_liars 117 = .ok (.iload_n 2, 1) := by decide +kernel
theorem dX7_liars_118 : decode cX7_liars 118 = .ok (.goto 4, 3) := by decide +kernel
theorem dX7_liars_121 : decode cX7_liars 121 = .ok (.iload_n 3, 1) := by decide +kernel
theorem dX7_liars_122 : decode cX7_liars 122 = .ok (.ireturn, 1) := by decide +kernel
set_option maxRecDepth 20000 in
theorem ggX7_isExact_X7_isClock : GoodIn wsX7_isExact wsX7_isClock := goodIn_r _ [6, 7, 8, 9, 5, 10, 11, 12, 13, 14, 15, 16, 17, 18, 19, 20, 21, 22, 23, 24, 25, 26, 27, 28, 29, 30, 31, 32, 33, 34, 35, 36, 37, 38, 39] (by decide +kernel) (by decide +kernel)
set_option maxRecDepth 20000 in
theorem gX7_isExact_X7_isClock : GoodIn wsX7_isExact (wsV RX7 143 RX7 yX7_isClock wsX7_isClock) := goodIn_app (goodIn_of _ (by decide +kernel)) ggX7_isExact_X7_isClock
theorem dX7_isExact_0 : decode cX7_isExact 0 = .ok (.aload_n 0, 1) := by decide +kernel
theorem dX7_isExact_1 : decode cX7_isExact 1 = .ok (.iload_n 1, 1) := by decide +kernel
theorem dX7_isExact_2 : decode cX7_isExact 2 = .ok (.invokevirtual 143, 3) := by decide +kernel
theorem dX7_isExact_5 : decode cX7_isExact 5 = .ok (.ifCond .eq 32, 3) := by decide +kernel
theorem dX7_isExact_8 : decode cX7_isExact 8 = .ok (.aload_n 0, 1) := by decide +kernel
theorem dX7_isExact_9 : decode cX7_isExact 9 = .ok (.getfield 7, 3) := by decide +kernel
theorem dX7_isExact_12 : decode cX7_isExact 12 = .ok (.bipush 6, 2) := by decide +kernel
theorem dX7_isExact_14 : decode cX7_isExact 14 = .ok (.iload_n 1, 1) := by decide +kernel
theorem dX7_isExact_15 : decode cX7_isExact 15 = .ok (.imul, 1) := by decide +kernel
theorem dX7_isExact_16 : decode cX7_isExact 16 = .ok (.iconst 3, 1) := by decide +kernel
theorem dX7_isExact_17 : decode cX7_isExact 17 = .ok (.iadd, 1) := by decide +kernel
theorem dX7_isExact_18 : decode cX7_isExact 18 = .ok (.iaload, 1) := by decide +kernel
theorem dX7_isExact_19 : decode cX7_isExact 19 = .ok (.aload_n 0, 1) := by decide +kernel
theorem dX7_isExact_20 : decode cX7_isExact 20 = .ok (.getfield 7, 3) := by decide +kernel
theorem dX7_isExact_23 : decode cX7_isExact 23 = .ok (.bipush 6, 2) := by decide +kernel
theorem dX7_isExact_25 : decode cX7_isExact 25 = .ok (.iload_n 1, 1) := by decide +kernel
theorem dX7_isExact_26 : decode cX7_isExact 26 = .ok (.imul, 1) := by decide +kernel
theorem dX7_isExact_27 : decode cX7_isExact 27 = .ok (.iconst 4, 1) := by decide +kernel
theorem dX7_isExact_28 : decode cX7_isExact 28 = .ok (.iadd, 1) := by decide +kernel
theorem dX7_isExact_29 : decode cX7_isExact 29 = .ok (.iaload, 1) := by decide +kernel
theorem dX7_isExact_30 : decode cX7_isExact 30 = .ok (.if_icmp .ne 7, 3) := by decide +kernel
theorem dX7_isExact_33 : decode cX7_isExact 33 = .ok (.iconst 1, 1) := by decide +kernel
theorem dX7_isExact_34 : decode cX7_isExact 34 = .ok (.goto 4, 3) := by decide +kernel
theorem dX7_isExact_37 : decode cX7_isExact 37 = .ok (.iconst 0, 1) := by decide +kernel
theorem dX7_isExact_38 : decode cX7_isExact 38 = .ok (.ireturn, 1) := by decide +kernel
set_option maxRecDepth 20000 in
theorem ggX7_next_X7_in : GoodIn wsX7_next wsX7_in := goodIn_r _ [8] (by decide +kernel) (by decide +kernel)
set_option maxRecDepth 20000 in
theorem gX7_next_X7_in : GoodIn wsX7_next (va_wsS RX7 41 yX7_in wsX7_in) := goodIn_app (goodIn_of _ (by decide +kernel)) ggX7_next_X7_in
set_option maxRecDepth 20000 in
theorem ggX7_next_X7_layFits : GoodIn wsX7_next wsX7_layFits := goodIn_r _ [12, 3, 13, 14, 15, 7, 16, 1, 4, 17, 18, 19, 20, 21, 22, 23, 24, 25, 26, 27, 28, 29, 30, 31, 32, 33, 34, 35, 36, 46, 47, 48, 49, 50, 51, 52, 53, 54, 55, 56, 57, 58, 59, 60, 61, 62, 63, 64, 65, 66, 67, 68, 69, 70, 71] (by decide +kernel) (by decide +kernel)
set_option maxRecDepth 20000 in
theorem gX7_next_X7_layFits : GoodIn wsX7_next (wsV RX7 170 RX7 yX7_layFits wsX7_layFits) := goodIn_app (goodIn_of _ (by decide +kernel)) ggX7_next_X7_layFits
set_option maxRecDepth 20000 in
theorem ggX7_next_X7_isExact : GoodIn wsX7_next wsX7_isExact := goodIn_r _ [40, 4, 41, 42, 43, 7, 44, 45, 5, 6, 8, 17, 18, 19, 46, 47, 48, 49, 50, 51, 52, 53, 54, 55, 56, 57, 58, 59, 60, 61, 62, 63, 64, 65, 66, 67, 68, 69, 70, 71] (by decide +kernel) (by decide +kernel)
set_option maxRecDepth 20000 in
theorem gX7_next_X7_isExact : GoodIn wsX7_next (wsV RX7 176 RX7 yX7_isExact wsX7_isExact) := goodIn_app (goodIn_of _ (by decide +kernel)) ggX7_next_X7_isExact
set_option maxRecDepth 20000 in
theorem ggX7_next_X7_has : GoodIn wsX7_next wsX7_has := goodIn_r _ [19] (by decide +kernel) (by decide +kernel)
set_option maxRecDepth 20000 in
theorem gX7_next_X7_has : GoodIn wsX7_next (va_wsS RX7 49 yX7_has wsX7_has) := goodIn_app (goodIn_of _ (by decide +kernel)) ggX7_next_X7_has
set_option maxRecDepth 20000 in
theorem ggX7_next_X7_hand : GoodIn wsX7_next wsX7_hand := goodIn_r _ [27, 4, 46, 47, 48, 49, 50, 51, 52, 53, 54, 55, 56, 57, 58, 59, 60, 61, 62, 63, 64, 65, 66, 67, 68, 69, 70, 71] (by decide +kernel) (by decide +kernel)
set_option maxRecDepth 20000 in
theorem gX7_next_X7_hand : GoodIn wsX7_next (wsV RX7 153 RX7 yX7_hand wsX7_hand) := goodIn_app (goodIn_of _ (by decide +kernel)) ggX7_next_X7_hand
set_option maxRecDepth 20000 in
theorem ggX7_next_X7_down : GoodIn wsX7_next wsX7_down := goodIn_r _ [33, 34, 35, 7, 36] (by decide +kernel) (by decide +kernel)
set_option maxRecDepth 20000 in
theorem gX7_next_X7_down : GoodIn wsX7_next (va_wsS RX7 157 yX7_down wsX7_down) := goodIn_app (goodIn_of _ (by decide +kernel)) ggX7_next_X7_down
set_option maxRecDepth 20000 in
theorem ggX7_next_X7_rest : GoodIn wsX7_next wsX7_rest := goodIn_r _ [36] (by decide +kernel) (by decide +kernel)
set_option maxRecDepth 20000 in
theorem gX7_next_X7_rest : GoodIn wsX7_next (va_wsS RX7 146 yX7_rest wsX7_rest) := goodIn_app (goodIn_of _ (by decide +kernel)) ggX7_next_X7_rest
theorem dX7_next_0 : decode cX7_next 0 = .ok (.iload_n 1, 1) := by decide +kernel
theorem dX7_next_1 : decode cX7_next 1 = .ok (.iconst 0, 1) := by decide +kernel
theorem dX7_next_2 : decode cX7_next 2 = .ok (.iconst 1, 1) := by decide +kernel
theorem dX7_next_3 : decode cX7_next 3 = .ok (.invokestatic 41, 3) := by decide +kernel
theorem dX7_next_6 : decode cX7_next 6 = .ok (.ifCond .ne 6, 3) := by decide +kernel
theorem dX7_next_9 : decode cX7_next 9 = .ok (.bipush (-3), 2) := by decide +kernel
theorem dX7_next_11 : decode cX7_next 11 = .ok (.ireturn, 1) := by decide +kernel
theorem dX7_next_12 : decode cX7_next 12 = .ok (.aload_n 0, 1) := by decide +kernel
theorem dX7_next_13 : decode cX7_next 13 = .ok (.invokevirtual 170, 3) := by decide +kernel
theorem dX7_next_16 : decode cX7_next 16 = .ok (.iconst (-1), 1) := by decide +kernel
theorem dX7_next_17 : decode cX7_next 17 = .ok (.istore_n 2, 1) := by decide +kernel
theorem dX7_next_18 : decode cX7_next 18 = .ok (.iconst 0, 1) := by decide +kernel
theorem dX7_next_19 : decode cX7_next 19 = .ok (.istore_n 3, 1) := by decide +kernel
theorem dX7_next_20 : decode cX7_next 20 = .ok (.iconst 0, 1) := by decide +kernel
theorem dX7_next_21 : decode cX7_next 21 = .ok (.istore 4, 2) := by decide +kernel
theorem dX7_next_23 : decode cX7_next 23 = .ok (.iload 4, 2) := by decide +kernel
theorem dX7_next_25 : decode cX7_next 25 = .ok (.bipush 8, 2) := by decide +kernel
theorem dX7_next_27 : decode cX7_next 27 = .ok (.if_icmp .ge 202, 3) := by decide +kernel
theorem dX7_next_30 : decode cX7_next 30 = .ok (.aload_n 0, 1) := by decide +kernel
theorem dX7_next_31 : decode cX7_next 31 = .ok (.iload 4, 2) := by decide +kernel
theorem dX7_next_33 : decode cX7_next 33 = .ok (.invokevirtual 176, 3) := by decide +kernel
theorem dX7_next_36 : decode cX7_next 36 = .ok (.ifCond .eq 187, 3) := by decide +kernel
theorem dX7_next_39 : decode cX7_next 39 = .ok (.aload_n 0, 1) := by decide +kernel
theorem dX7_next_40 : decode cX7_next 40 = .ok (.getfield 136, 3) := by decide +kernel
theorem dX7_next_43 : decode cX7_next 43 = .ok (.iload 4, 2) := by decide +kernel
theorem dX7_next_45 : decode cX7_next 45 = .ok (.invokestatic 49, 3) := by decide +kernel
theorem dX7_next_48 : decode cX7_next 48 = .ok (.ifCond .ne 175, 3) := by decide +kernel
theorem dX7_next_51 : decode cX7_next 51 = .ok (.iconst 0, 1) := by decide +kernel
theorem dX7_next_52 : decode cX7_next 52 = .ok (.istore 5, 2) := by decide +kernel
theorem dX7_next_54 : decode cX7_next 54 = .ok (.iconst 0, 1) := by decide +kernel
theorem dX7_next_55 : decode cX7_next 55 = .ok (.istore 6, 2) := by decide +kernel
theorem dX7_next_57 : decode cX7_next 57 = .ok (.iload 6, 2) := by decide +kernel
theorem dX7_next_59 : decode cX7_next 59 = .ok (.sipush 720, 3) := by decide +kernel
theorem dX7_next_62 : decode cX7_next 62 = .ok (.if_icmp .ge 17, 3) := by decide +kernel
theorem dX7_next_65 : decode cX7_next 65 = .ok (.aload_n 0, 1) := by decide +kernel
theorem dX7_next_66 : decode cX7_next 66 = .ok (.getfield 25, 3) := by decide +kernel
theorem dX7_next_69 : decode cX7_next 69 = .ok (.iload 6, 2) := by decide +kernel
theorem dX7_next_71 : decode cX7_next 71 = .ok (.iconst 0, 1) := by decide +kernel
theorem dX7_next_72 : decode cX7_next 72 = .ok (.iastore, 1) := by decide +kernel
theorem dX7_next_73 : decode cX7_next 73 = .ok (.iinc 6 1, 3) := by decide +kernel
theorem dX7_next_76 : decode cX7_next 76 = .ok (.goto (-19), 3) := by decide +kernel
theorem dX7_next_79 : decode cX7_next 79 = .ok (.iconst 0, 1) := by decide +kernel
theorem dX7_next_80 : decode cX7_next 80 = .ok (.istore 6, 2) := by decide +kernel
theorem dX7_next_82 : decode cX7_next 82 = .ok (.iload 6, 2) := by decide +kernel
theorem dX7_next_84 : decode cX7_next 84 = .ok (.sipush 4320, 3) := by decide +kernel
theorem dX7_next_87 : decode cX7_next 87 = .ok (.if_icmp .ge 94, 3) := by decide +kernel
theorem dX7_next_90 : decode cX7_next 90 = .ok (.aload_n 0, 1) := by decide +kernel
theorem dX7_next_91 : decode cX7_next 91 = .ok (.getfield 22, 3) := by decide +kernel
theorem dX7_next_94 : decode cX7_next 94 = .ok (.iload 6, 2) := by decide +kernel
theorem dX7_next_96 : decode cX7_next 96 = .ok (.iaload, 1) := by decide +kernel
theorem dX7_next_97 : decode cX7_next 97 = .ok (.aload_n 0, 1) := by decide +kernel
theorem dX7_next_98 : decode cX7_next 98 = .ok (.getfield 136, 3) := by decide +kernel
theorem dX7_next_101 : decode cX7_next 101 = .ok (.if_icmp .ne 74, 3) := by decide +kernel
theorem dX7_next_104 : decode cX7_next 104 = .ok (.aload_n 0, 1) := by decide +kernel
theorem dX7_next_105 : decode cX7_next 105 = .ok (.iload 4, 2) := by decide +kernel
theorem dX7_next_107 : decode cX7_next 107 = .ok (.iload 6, 2) := by decide +kernel
theorem dX7_next_109 : decode cX7_next 109 = .ok (.aload_n 0, 1) := by decide +kernel
theorem dX7_next_110 : decode cX7_next 110 = .ok (.getfield 7, 3) := by decide +kernel
theorem dX7_next_113 : decode cX7_next 113 = .ok (.bipush 6, 2) := by decide +kernel
theorem dX7_next_115 : decode cX7_next 115 = .ok (.iload 4, 2) := by decide +kernel
theorem dX7_next_117 : decode cX7_next 117 = .ok (.imul, 1) := by decide +kernel
theorem dX7_next_118 : decode cX7_next 118 = .ok (.iconst 3, 1) := by decide +kernel
theorem dX7_next_119 : decode cX7_next 119 = .ok (.iadd, 1) := by decide +kernel
theorem dX7_next_120 : decode cX7_next 120 = .ok (.iaload, 1) := by decide +kernel
theorem dX7_next_121 : decode cX7_next 121 = .ok (.invokevirtual 153, 3) := by decide +kernel
theorem dX7_next_124 : decode cX7_next 124 = .ok (.sipush 1440, 3) := by decide +kernel
theorem dX7_next_127 : decode cX7_next 127 = .ok (.invokestatic 157, 3) := by decide +kernel
theorem dX7_next_130 : decode cX7_next 130 = .ok (.sipush 720, 3) := by decide +kernel
theorem dX7_next_133 : decode cX7_next 133 = .ok (.invokestatic 146, 3) := by decide +kernel
theorem dX7_next_136 : decode cX7_next 136 = .ok (.istore 7, 2) := by decide +kernel
theorem dX7_next_138 : decode cX7_next 138 = .ok (.aload_n 0, 1) := by decide +kernel
theorem dX7_next_139 : decode cX7_next 139 = .ok (.getfield 25, 3) := by decide +kernel
theorem dX7_next_142 : decode cX7_next 142 = .ok (.iload 7, 2) := by decide +kernel
theorem dX7_next_144 : decode cX7_next 144 = .ok (.dup2, 1) := by decide +kernel
theorem dX7_next_145 : decode cX7_next 145 = .ok (.iaload, 1) := by decide +kernel
theorem dX7_next_146 : decode cX7_next 146 = .ok (.iconst 1, 1) := by decide +kernel
theorem dX7_next_147 : decode cX7_next 147 = .ok (.iadd, 1) := by decide +kernel
theorem dX7_next_148 : decode cX7_next 148 = .ok (.iastore, 1) := by decide +kernel
theorem dX7_next_149 : decode cX7_next 149 = .ok (.aload_n 0, 1) := by decide +kernel
theorem dX7_next_150 : decode cX7_next 150 = .ok (.getfield 25, 3) := by decide +kernel
theorem dX7_next_153 : decode cX7_next 153 = .ok (.iload 7, 2) := by decide +kernel
theorem dX7_next_155 : decode cX7_next 155 = .ok (.iaload, 1) := by decide +kernel
theorem dX7_next_156 : decode cX7_next 156 = .ok (.iload 5, 2) := by decide +kernel
theorem dX7_next_158 : decode cX7_next 158 = .ok (.if_icmp .le 13, 3) := by decide +kernel
theorem dX7_next_161 : decode cX7_next 161 = .ok (.aload_n 0, 1) := by decide +kernel
theorem dX7_next_162 : decode cX7_next 162 = .ok (.getfield 25, 3) := by decide +kernel
theorem dX7_next_165 : decode cX7_next 165 = .ok (.iload 7, 2) := by decide +kernel
theorem dX7_next_167 : decode cX7_next 167 = .ok (.iaload, 1) := by decide +kernel
theorem dX7_next_168 : decode cX7_next 168 = .ok (.goto 5, 3) := by decide +kernel
theorem dX7_next_171 : decode cX7_next 171 = .ok (.iload 5, 2) := by decide +kernel
theorem dX7_next_173 : decode cX7_next 173 = .ok (.istore 5, 2) := by decide +kernel
theorem dX7_next_175 : decode cX7_next 175 = .ok (.iinc 6 1, 3) := by decide +kernel
theorem dX7_next_178 : decode cX7_next 178 = .ok (.goto (-96), 3) := by decide +kernel
theorem dX7_next_181 : decode cX7_next 181 = .ok (.iload_n 2, 1) := by decide +kernel
theorem dX7_next_182 : decode cX7_next 182 = .ok (.iconst (-1), 1) := by decide +kernel
theorem dX7_next_183 : decode cX7_next 183 = .ok (.if_icmp .eq 9, 3) := by decide +kernel
theorem dX7_next_186 : decode cX7_next 186 = .ok (.iload 5, 2) := by decide +kernel
theorem dX7_next_188 : decode cX7_next 188 = .ok (.iload_n 3, 1) := by decide +kernel
theorem dX7_next_189 : decode cX7_next 189 = .ok (.if_icmp .ge 7, 3) := by decide +kernel
theorem dX7_next_192 : decode cX7_next 192 = .ok (.iconst 1, 1) := by decide +kernel
theorem dX7_next_193 : decode cX7_next 193 = .ok (.goto 4, 3) := by decide +kernel
theorem dX7_next_196 : decode cX7_next 196 = .ok (.iconst 0, 1) := by decide +kernel
theorem dX7_next_197 : decode cX7_next 197 = .ok (.istore 6, 2) := by decide +kernel
theorem dX7_next_199 : decode cX7_next 199 = .ok (.iload 6, 2) := by decide +kernel
theorem dX7_next_201 : decode cX7_next 201 = .ok (.ifCond .eq 8, 3) := by decide +kernel
theorem dX7_next_204 : decode cX7_next 204 = .ok (.iload 4, 2) := by decide +kernel
theorem dX7_next_206 : decode cX7_next 206 = .ok (.goto 4, 3) := by decide +kernel
theorem dX7_next_209 : decode cX7_next 209 = .ok (.iload_n 2, 1) := by decide +kernel
theorem dX7_next_210 : decode cX7_next 210 = .ok (.istore_n 2, 1) := by decide +kernel
theorem dX7_next_211 : decode cX7_next 211 = .ok (.iload 6, 2) := by decide +kernel
theorem dX7_next_213 : decode cX7_next 213 = .ok (.ifCond .eq 8, 3) := by decide +kernel
theorem dX7_next_216 : decode cX7_next 216 = .ok (.iload 5, 2) := by decide +kernel
theorem dX7_next_218 : decode cX7_next 218 = .ok (.goto 4, 3) := by decide +kernel
theorem dX7_next_221 : decode cX7_next 221 = .ok (.iload_n 3, 1) := by decide +kernel
theorem dX7_next_222 : decode cX7_next 222 = .ok (.istore_n 3, 1) := by decide +kernel
theorem dX7_next_223 : decode cX7_next 223 = .ok (.iinc 4 1, 3) := by decide +kernel
theorem dX7_next_226 : decode cX7_next 226 = .ok (.goto (-203), 3) := by decide +kernel
theorem dX7_next_229 : decode cX7_next 229 = .ok (.iload_n 2, 1) := by decide +kernel
theorem dX7_next_230 : decode cX7_next 230 = .ok (.iconst (-1), 1) := by decide +kernel
theorem dX7_next_231 : decode cX7_next 231 = .ok (.if_icmp .eq 7, 3) := by decide +kernel
theorem dX7_next_234 : decode cX7_next 234 = .ok (.iload_n 1, 1) := by decide +kernel
theorem dX7_next_235 : decode cX7_next 235 = .ok (.ifCond .ne 7, 3) := by decide +kernel
theorem dX7_next_238 : decode cX7_next 238 = .ok (.iload_n 2, 1) := by decide +kernel
theorem dX7_next_239 : decode cX7_next 239 = .ok (.goto 4, 3) := by decide +kernel
theorem dX7_next_242 : decode cX7_next 242 = .ok (.iload_n 3, 1) := by decide +kernel
theorem dX7_next_243 : decode cX7_next 243 = .ok (.ireturn, 1) := by decide +kernel
set_option maxRecDepth 20000 in
theorem ggX7_note_X7_isClock : GoodIn wsX7_note wsX7_isClock := goodIn_r _ [7, 8, 9, 10, 6, 11, 12, 13, 14, 18, 19, 20, 21, 22, 23, 24, 25, 26, 27, 28, 29, 30, 31, 32, 33, 34, 35, 36, 37, 38, 39, 40, 41, 42, 43] (by decide +kernel) (by decide +kernel)
set_option maxRecDepth 20000 in
theorem gX7_note_X7_isClock : GoodIn wsX7_note (wsV RX7 143 RX7 yX7_isClock wsX7_isClock) := goodIn_app (goodIn_of _ (by decide +kernel)) ggX7_note_X7_isClock
set_option maxRecDepth 20000 in
theorem ggX7_note_X7_isMinute : GoodIn wsX7_note wsX7_isMinute := goodIn_r _ [17, 9, 10, 6, 11] (by decide +kernel) (by decide +kernel)
set_option maxRecDepth 20000 in
theorem gX7_note_X7_isMinute : GoodIn wsX7_note (va_wsS RX7 150 yX7_isMinute wsX7_isMinute) := goodIn_app (goodIn_of _ (by decide +kernel)) ggX7_note_X7_isMinute
set_option maxRecDepth 20000 in
theorem ggX7_note_X7_in : GoodIn wsX7_note wsX7_in := goodIn_r _ [11] (by decide +kernel) (by decide +kernel)
set_option maxRecDepth 20000 in
theorem gX7_note_X7_in : GoodIn wsX7_note (va_wsS RX7 41 yX7_in wsX7_in) := goodIn_app (goodIn_of _ (by decide +kernel)) ggX7_note_X7_in
theorem dX7_note_0 : decode cX7_note 0 = .ok (.aload_n 0, 1) := by decide +kernel
theorem dX7_note_1 : decode cX7_note 1 = .ok (.iload_n 1, 1) := by decide +kernel
theorem dX7_note_2 : decode cX7_note 2 = .ok (.invokevirtual 143, 3) := by decide +kernel
theorem dX7_note_5 : decode cX7_note 5 = .ok (.ifCond .ne 6, 3) := by decide +kernel
theorem dX7_note_8 : decode cX7_note 8 = .ok (.bipush (-2), 2) := by decide +kernel
theorem dX7_note_10 : decode cX7_note 10 = .ok (.ireturn, 1) := by decide +kernel
theorem dX7_note_11 : decode cX7_note 11 = .ok (.iload_n 2, 1) := by decide +kernel
theorem dX7_note_12 : decode cX7_note 12 = .ok (.invokestatic 150, 3) := by decide +kernel
theorem dX7_note_15 : decode cX7_note 15 = .ok (.ifCond .eq 14, 3) := by decide +kernel
theorem dX7_note_18 : decode cX7_note 18 = .ok (.iload_n 3, 1) := by decide +kernel
theorem dX7_note_19 : decode cX7_note 19 = .ok (.iconst 0, 1) := by decide +kernel
theorem dX7_note_20 : decode cX7_note 20 = .ok (.sipush 719, 3) := by decide +kernel
theorem dX7_note_23 : decode cX7_note 23 = .ok (.invokestatic 41, 3) := by decide +kernel
theorem dX7_note_26 : decode cX7_note 26 = .ok (.ifCond .ne 6, 3) := by decide +kernel
theorem dX7_note_29 : decode cX7_note 29 = .ok (.bipush (-3), 2) := by decide +kernel
theorem dX7_note_31 : decode cX7_note 31 = .ok (.ireturn, 1) := by decide +kernel
theorem dX7_note_32 : decode cX7_note 32 = .ok (.aload_n 0, 1) := by decide +kernel
theorem dX7_note_33 : decode cX7_note 33 = .ok (.getfield 179, 3) := by decide +kernel
theorem dX7_note_36 : decode cX7_note 36 = .ok (.bipush 12, 2) := by decide +kernel
theorem dX7_note_38 : decode cX7_note 38 = .ok (.if_icmp .ne 6, 3) := by decide +kernel
theorem dX7_note_41 : decode cX7_note 41 = .ok (.bipush (-5), 2) := by decide +kernel
theorem dX7_note_43 : decode cX7_note 43 = .ok (.ireturn, 1) := by decide +kernel
theorem dX7_note_44 : decode cX7_note 44 = .ok (.aload_n 0, 1) := by decide +kernel
theorem dX7_note_45 : decode cX7_note 45 = .ok (.getfield 13, 3) := by decide +kernel
theorem dX7_note_48 : decode cX7_note 48 = .ok (.iconst 3, 1) := by decide +kernel
theorem dX7_note_49 : decode cX7_note 49 = .ok (.aload_n 0, 1) := by decide +kernel
theorem dX7_note_50 : decode cX7_note 50 = .ok (.getfield 179, 3) := by decide +kernel
theorem dX7_note_53 : decode cX7_note 53 = .ok (.imul, 1) := by decide +kernel
theorem dX7_note_54 : decode cX7_note 54 = .ok (.iload_n 1, 1) := by decide +kernel
theorem dX7_note_55 : decode cX7_note 55 = .ok (.iastore, 1) := by decide +kernel
theorem dX7_note_56 : decode cX7_note 56 = .ok (.aload_n 0, 1) := by decide +kernel
theorem dX7_note_57 : decode cX7_note 57 = .ok (.getfield 13, 3) := by decide +kernel
theorem dX7_note_60 : decode cX7_note 60 = .ok (.iconst 3, 1) := by decide +kernel
theorem dX7_note_61 : decode cX7_note 61 = .ok (.aload_n 0, 1) := by decide +kernel
theorem dX7_note_62 : decode cX7_note 62 = .ok (.getfield 179, 3) := by decide +kernel
theorem dX7_note_65 : decode cX7_note 65 = .ok (.imul, 1) := by decide +kernel
theorem dX7_note_66 : decode cX7_note 66 = .ok (.iconst 1, 1) := by decide +kernel
theorem dX7_note_67 : decode cX7_note 67 = .ok (.iadd, 1) := by decide +kernel
theorem dX7_note_68 : decode cX7_note 68 = .ok (.iload_n 2, 1) := by decide +kernel
theorem dX7_note_69 : decode cX7_note 69 = .ok (.iastore, 1) := by decide +kernel
theorem dX7_note_70 : decode cX7_note 70 = .ok (.aload_n 0, 1) := by decide +kernel
theorem dX7_note_71 : decode cX7_note 71 = .ok (.getfield 13, 3) := by decide +kernel
theorem dX7_note_74 : decode cX7_note 74 = .ok (.iconst 3, 1) := by decide +kernel
theorem dX7_note_75 : decode cX7_note 75 = .ok (.aload_n 0, 1) := by decide +kernel
theorem dX7_note_76 : decode cX7_note 76 = .ok (.getfield 179, 3) := by decide +kernel
theorem dX7_note_79 : decode cX7_note 79 = .ok (.imul, 1) := by decide +kernel
theorem dX7_note_80 : decode cX7_note 80 = .ok (.iconst 2, 1) := by decide +kernel
theorem dX7_note_81 : decode cX7_note 81 = .ok (.iadd, 1) := by decide +kernel
theorem dX7_note_82 : decode cX7_note 82 = .ok (.iload_n 3, 1) := by decide +kernel
theorem dX7_note_83 : decode cX7_note 83 = .ok (.iastore, 1) := by decide +kernel
theorem dX7_note_84 : decode cX7_note 84 = .ok (.aload_n 0, 1) := by decide +kernel
theorem dX7_note_85 : decode cX7_note 85 = .ok (.dup, 1) := by decide +kernel
theorem dX7_note_86 : decode cX7_note 86 = .ok (.getfield 179, 3) := by decide +kernel
theorem dX7_note_89 : decode cX7_note 89 = .ok (.iconst 1, 1) := by decide +kernel
theorem dX7_note_90 : decode cX7_note 90 = .ok (.iadd, 1) := by decide +kernel
theorem dX7_note_91 : decode cX7_note 91 = .ok (.putfield 179, 3) := by decide +kernel
theorem dX7_note_94 : decode cX7_note 94 = .ok (.aload_n 0, 1) := by decide +kernel
theorem dX7_note_95 : decode cX7_note 95 = .ok (.getfield 179, 3) := by decide +kernel
theorem dX7_note_98 : decode cX7_note 98 = .ok (.ireturn, 1) := by decide +kernel
theorem dX7_burn_0 : decode cX7_burn 0 = .ok (.aload_n 0, 1) := by decide +kernel
theorem dX7_burn_1 : decode cX7_burn 1 = .ok (.getfield 179, 3) := by decide +kernel
theorem dX7_burn_4 : decode cX7_burn 4 = .ok (.istore_n 1, 1) := by decide +kernel
theorem dX7_burn_5 : decode cX7_burn 5 = .ok (.aload_n 0, 1) := by decide +kernel
theorem dX7_burn_6 : decode cX7_burn 6 = .ok (.iconst 0, 1) := by decide +kernel
theorem dX7_burn_7 : decode cX7_burn 7 = .ok (.putfield 179, 3) := by decide +kernel
theorem dX7_burn_10 : decode cX7_burn 10 = .ok (.iload_n 1, 1) := by decide +kernel
theorem dX7_burn_11 : decode cX7_burn 11 = .ok (.ireturn, 1) := by decide +kernel
set_option maxRecDepth 20000 in
theorem ggX7_isNoted_X7_rest : GoodIn wsX7_isNoted wsX7_rest := goodIn_r _ [9] (by decide +kernel) (by decide +kernel)
set_option maxRecDepth 20000 in
theorem gX7_isNoted_X7_rest : GoodIn wsX7_isNoted (va_wsS RX7 146 yX7_rest wsX7_rest) := goodIn_app (goodIn_of _ (by decide +kernel)) ggX7_isNoted_X7_rest
theorem dX7_isNoted_0 : decode cX7_isNoted 0 = .ok (.iconst (-1), 1) := by decide +kernel
theorem dX7_isNoted_1 : decode cX7_isNoted 1 = .ok (.istore_n 3, 1) := by decide +kernel
theorem dX7_isNoted_2 : decode cX7_isNoted 2 = .ok (.iconst 0, 1) := by decide +kernel
theorem dX7_isNoted_3 : decode cX7_isNoted 3 = .ok (.istore 4, 2) := by decide +kernel
theorem dX7_isNoted_5 : decode cX7_isNoted 5 = .ok (.iconst 0, 1) := by decide +kernel
theorem dX7_isNoted_6 : decode cX7_isNoted 6 = .ok (.istore 5, 2) := by decide +kernel
theorem dX7_isNoted_8 : decode cX7_isNoted 8 = .ok (.iconst 0, 1) := by decide +kernel
theorem dX7_isNoted_9 : decode cX7_isNoted 9 = .ok (.istore 6, 2) := by decide +kernel
theorem dX7_isNoted_11 : decode cX7_isNoted 11 = .ok (.iload 6, 2) := by decide +kernel
theorem dX7_isNoted_13 : decode cX7_isNoted 13 = .ok (.aload_n 0, 1) := by decide +kernel
theorem dX7_isNoted_14 : decode cX7_isNoted 14 = .ok (.getfield 179, 3) := by decide +kernel
theorem dX7_isNoted_17 : decode cX7_isNoted 17 = .ok (.if_icmp .ge 176, 3) := by decide +kernel
theorem dX7_isNoted_20 : decode cX7_isNoted 20 = .ok (.aload_n 0, 1) := by decide +kernel
theorem dX7_isNoted_21 : decode cX7_isNoted 21 = .ok (.getfield 13, 3) := by decide +kernel
theorem dX7_isNoted_24 : decode cX7_isNoted 24 = .ok (.iconst 3, 1) := by decide +kernel
theorem dX7_isNoted_25 : decode cX7_isNoted 25 = .ok (.iload 6, 2) := by decide +kernel
theorem dX7_isNoted_27 : decode cX7_isNoted 27 = .ok (.imul, 1) := by decide +kernel
theorem dX7_isNoted_28 : decode cX7_isNoted 28 = .ok (.iaload, 1) := by decide +kernel
theorem dX7_isNoted_29 : decode cX7_isNoted 29 = .ok (.iload_n 1, 1) := by decide +kernel
theorem dX7_isNoted_30 : decode cX7_isNoted 30 = .ok (.if_icmp .ne 157, 3) := by decide +kernel
theorem dX7_isNoted_33 : decode cX7_isNoted 33 = .ok (.aload_n 0, 1) := by decide +kernel
theorem dX7_isNoted_34 : decode cX7_isNoted 34 = .ok (.getfield 13, 3) := by decide +kernel
theorem dX7_isNoted_37 : decode cX7_isNoted 37 = .ok (.iconst 3, 1) := by decide +kernel
theorem dX7_isNoted_38 : decode cX7_isNoted 38 = .ok (.iload 6, 2) := by decide +kernel
theorem dX7_isNoted_40 : decode cX7_isNoted 40 = .ok (.imul, 1) := by decide +kernel
theorem dX7_isNoted_41 : decode cX7_isNoted 41 = .ok (.iconst 1, 1) := by decide +kernel
theorem dX7_isNoted_42 : decode cX7_isNoted 42 = .ok (.iadd, 1) := by decide +kernel
theorem dX7_isNoted_43 : decode cX7_isNoted 43 = .ok (.iaload, 1) := by decide +kernel
theorem dX7_isNoted_44 : decode cX7_isNoted 44 = .ok (.aload_n 0, 1) := by decide +kernel
theorem dX7_isNoted_45 : decode cX7_isNoted 45 = .ok (.getfield 7, 3) := by decide +kernel
theorem dX7_isNoted_48 : decode cX7_isNoted 48 = .ok (.bipush 6, 2) := by decide +kernel
theorem dX7_isNoted_50 : decode cX7_isNoted 50 = .ok (.iload_n 1, 1) := by decide +kernel
theorem dX7_isNoted_51 : decode cX7_isNoted 51 = .ok (.imul, 1) := by decide +kernel
theorem dX7_isNoted_52 : decode cX7_isNoted 52 = .ok (.iaload, 1) := by decide +kernel
theorem dX7_isNoted_53 : decode cX7_isNoted 53 = .ok (.iconst 2, 1) := by decide +kernel
theorem dX7_isNoted_54 : decode cX7_isNoted 54 = .ok (.if_icmp .ne 7, 3) := by decide +kernel
theorem dX7_isNoted_57 : decode cX7_isNoted 57 = .ok (.iconst 0, 1) := by decide +kernel
theorem dX7_isNoted_58 : decode cX7_isNoted 58 = .ok (.goto 8, 3) := by decide +kernel
theorem dX7_isNoted_61 : decode cX7_isNoted 61 = .ok (.sipush 1440, 3) := by decide +kernel
theorem dX7_isNoted_64 : decode cX7_isNoted 64 = .ok (.iload_n 2, 1) := by decide +kernel
theorem dX7_isNoted_65 : decode cX7_isNoted 65 = .ok (.iadd, 1) := by decide +kernel
theorem dX7_isNoted_66 : decode cX7_isNoted 66 = .ok (.imul, 1) := by decide +kernel
theorem dX7_isNoted_67 : decode cX7_isNoted 67 = .ok (.istore 7, 2) := by decide +kernel
theorem dX7_isNoted_69 : decode cX7_isNoted 69 = .ok (.sipush 1440, 3) := by decide +kernel
theorem dX7_isNoted_72 : decode cX7_isNoted 72 = .ok (.aload_n 0, 1) := by decide +kernel
theorem dX7_isNoted_73 : decode cX7_isNoted 73 = .ok (.getfield 13, 3) := by decide +kernel
theorem dX7_isNoted_76 : decode cX7_isNoted 76 = .ok (.iconst 3, 1) := by decide +kernel
theorem dX7_isNoted_77 : decode cX7_isNoted 77 = .ok (.iload 6, 2) := by decide +kernel
theorem dX7_isNoted_79 : decode cX7_isNoted 79 = .ok (.imul, 1) := by decide +kernel
theorem dX7_isNoted_80 : decode cX7_isNoted 80 = .ok (.iconst 2, 1) := by decide +kernel
theorem dX7_isNoted_81 : decode cX7_isNoted 81 = .ok (.iadd, 1) := by decide +kernel
theorem dX7_isNoted_82 : decode cX7_isNoted 82 = .ok (.iaload, 1) := by decide +kernel
theorem dX7_isNoted_83 : decode cX7_isNoted 83 = .ok (.imul, 1) := by decide +kernel
theorem dX7_isNoted_84 : decode cX7_isNoted 84 = .ok (.aload_n 0, 1) := by decide +kernel
theorem dX7_isNoted_85 : decode cX7_isNoted 85 = .ok (.getfield 7, 3) := by decide +kernel
theorem dX7_isNoted_88 : decode cX7_isNoted 88 = .ok (.bipush 6, 2) := by decide +kernel
theorem dX7_isNoted_90 : decode cX7_isNoted 90 = .ok (.iload_n 1, 1) := by decide +kernel
theorem dX7_isNoted_91 : decode cX7_isNoted 91 = .ok (.imul, 1) := by decide +kernel
theorem dX7_isNoted_92 : decode cX7_isNoted 92 = .ok (.iaload, 1) := by decide +kernel
theorem dX7_isNoted_93 : decode cX7_isNoted 93 = .ok (.iconst 1, 1) := by decide +kernel
theorem dX7_isNoted_94 : decode cX7_isNoted 94 = .ok (.if_icmp .ne 8, 3) := by decide +kernel
theorem dX7_isNoted_97 : decode cX7_isNoted 97 = .ok (.iload 7, 2) := by decide +kernel
theorem dX7_isNoted_99 : decode cX7_isNoted 99 = .ok (.goto 6, 3) := by decide +kernel
theorem dX7_isNoted_102 : decode cX7_isNoted 102 = .ok (.iload 7, 2) := by decide +kernel
theorem dX7_isNoted_104 : decode cX7_isNoted 104 = .ok (.ineg, 1) := by decide +kernel
theorem dX7_isNoted_105 : decode cX7_isNoted 105 = .ok (.iadd, 1) := by decide +kernel
theorem dX7_isNoted_106 : decode cX7_isNoted 106 = .ok (.ldc 182, 2) := by decide +kernel
theorem dX7_isNoted_108 : decode cX7_isNoted 108 = .ok (.invokestatic 146, 3) := by decide +kernel
theorem dX7_isNoted_111 : decode cX7_isNoted 111 = .ok (.istore 8, 2) := by decide +kernel
theorem dX7_isNoted_113 : decode cX7_isNoted 113 = .ok (.iload_n 3, 1) := by decide +kernel
theorem dX7_isNoted_114 : decode cX7_isNoted 114 = .ok (.iconst (-1), 1) := by decide +kernel
theorem dX7_isNoted_115 : decode cX7_isNoted 115 = .ok (.if_icmp .ne 8, 3) := by decide +kernel
theorem dX7_isNoted_118 : decode cX7_isNoted 118 = .ok (.iload 8, 2) := by decide +kernel
theorem dX7_isNoted_120 : decode cX7_isNoted 120 = .ok (.goto 4, 3) := by decide +kernel
theorem dX7_isNoted_123 : decode cX7_isNoted 123 = .ok (.iload_n 3, 1) := by decide +kernel
theorem dX7_isNoted_124 : decode cX7_isNoted 124 = .ok (.istore_n 3, 1) := by decide +kernel
theorem dX7_isNoted_125 : decode cX7_isNoted 125 = .ok (.iload 8, 2) := by decide +kernel
theorem dX7_isNoted_127 : decode cX7_isNoted 127 = .ok (.iload_n 3, 1) := by decide +kernel
theorem dX7_isNoted_128 : decode cX7_isNoted 128 = .ok (.isub, 1) := by decide +kernel
theorem dX7_isNoted_129 : decode cX7_isNoted 129 = .ok (.ldc 182, 2) := by decide +kernel
theorem dX7_isNoted_131 : decode cX7_isNoted 131 = .ok (.invokestatic 146, 3) := by decide +kernel
theorem dX7_isNoted_134 : decode cX7_isNoted 134 = .ok (.istore 9, 2) := by decide +kernel
theorem dX7_isNoted_136 : decode cX7_isNoted 136 = .ok (.iload 9, 2) := by decide +kernel
theorem dX7_isNoted_138 : decode cX7_isNoted 138 = .ok (.ldc 183, 2) := by decide +kernel
theorem dX7_isNoted_140 : decode cX7_isNoted 140 = .ok (.if_icmp .le 11, 3) := by decide +kernel
theorem dX7_isNoted_143 : decode cX7_isNoted 143 = .ok (.iload 9, 2) := by decide +kernel
theorem dX7_isNoted_145 : decode cX7_isNoted 145 = .ok (.ldc 182, 2) := by decide +kernel
theorem dX7_isNoted_147 : decode cX7_isNoted 147 = .ok (.isub, 1) := by decide +kernel
theorem dX7_isNoted_148 : decode cX7_isNoted 148 = .ok (.goto 5, 3) := by decide +kernel
theorem dX7_isNoted_151 : decode cX7_isNoted 151 = .ok (.iload 9, 2) := by decide +kernel
theorem dX7_isNoted_153 : decode cX7_isNoted 153 = .ok (.istore 9, 2) := by decide +kernel
theorem dX7_isNoted_155 : decode cX7_isNoted 155 = .ok (.iload 9, 2) := by decide +kernel
theorem dX7_isNoted_157 : decode cX7_isNoted 157 = .ok (.iload 4, 2) := by decide +kernel
theorem dX7_isNoted_159 : decode cX7_isNoted 159 = .ok (.if_icmp .ge 8, 3) := by decide +kernel
theorem dX7_isNoted_162 : decode cX7_isNoted 162 = .ok (.iload 9, 2) := by decide +kernel
theorem dX7_isNoted_164 : decode cX7_isNoted 164 = .ok (.goto 5, 3) := by decide +kernel
theorem dX7_isNoted_167 : decode cX7_isNoted 167 = .ok (.iload 4, 2) := by decide +kernel
theorem dX7_isNoted_169 : decode cX7_isNoted 169 = .ok (.istore 4, 2) := by decide +kernel
theorem dX7_isNoted_171 : decode cX7_isNoted 171 = .ok (.iload 9, 2) := by decide +kernel
theorem dX7_isNoted_173 : decode cX7_isNoted 173 = .ok (.iload 5, 2) := by decide +kernel
theorem dX7_isNoted_175 : decode cX7_isNoted 175 = .ok (.if_icmp .le 8, 3) := by decide +kernel
theorem dX7_isNoted_178 : decode cX7_isNoted 178 = .ok (.iload 9, 2) := by decide +kernel
theorem dX7_isNoted_180 : decode cX7_isNoted 180 = .ok (.goto 5, 3) := by decide +kernel
theorem dX7_isNoted_183 : decode cX7_isNoted 183 = .ok (.iload 5, 2) := by decide +kernel
theorem dX7_isNoted_185 : decode cX7_isNoted 185 = .ok (.istore 5, 2) := by decide +kernel
theorem dX7_isNoted_187 : decode cX7_isNoted 187 = .ok (.iinc 6 1, 3) := by decide +kernel
theorem dX7_isNoted_190 : decode cX7_isNoted 190 = .ok (.goto (-179), 3) := by decide +kernel
theorem dX7_isNoted_193 : decode cX7_isNoted 193 = .ok (.iload 5, 2) := by decide +kernel
theorem dX7_isNoted_195 : decode cX7_isNoted 195 = .ok (.iload 4, 2) := by decide +kernel
theorem dX7_isNoted_197 : decode cX7_isNoted 197 = .ok (.isub, 1) := by decide +kernel
theorem dX7_isNoted_198 : decode cX7_isNoted 198 = .ok (.sipush 1440, 3) := by decide +kernel
theorem dX7_isNoted_201 : decode cX7_isNoted 201 = .ok (.if_icmp .ge 7, 3) := by decide +kernel
theorem dX7_isNoted_204 : decode cX7_isNoted 204 = .ok (.iconst 1, 1) := by decide +kernel
theorem dX7_isNoted_205 : decode cX7_isNoted 205 = .ok (.goto 4, 3) := by decide +kernel
theorem dX7_isNoted_208 : decode cX7_isNoted 208 = .ok (.iconst 0, 1) := by decide +kernel
theorem dX7_isNoted_209 : decode cX7_isNoted 209 = .ok (.ireturn, 1) := by decide +kernel
set_option maxRecDepth 20000 in
theorem ggX7_rates_X7_isClock : GoodIn wsX7_rates wsX7_isClock := goodIn_r _ [5, 6, 7, 8, 4, 9, 10, 11, 12, 25, 26, 27, 28, 29, 30, 31, 32, 33, 34, 35, 36, 37, 38, 39, 40, 41, 42, 43, 44, 45, 46, 47, 48, 49, 50] (by decide +kernel) (by decide +kernel)
set_option maxRecDepth 20000 in
theorem gX7_rates_X7_isClock : GoodIn wsX7_rates (wsV RX7 143 RX7 yX7_isClock wsX7_isClock) := goodIn_app (goodIn_of _ (by decide +kernel)) ggX7_rates_X7_isClock
set_option maxRecDepth 20000 in
theorem ggX7_rates_X7_in : GoodIn wsX7_rates wsX7_in := goodIn_r _ [9] (by decide +kernel) (by decide +kernel)
set_option maxRecDepth 20000 in
theorem gX7_rates_X7_in : GoodIn wsX7_rates (va_wsS RX7 41 yX7_in wsX7_in) := goodIn_app (goodIn_of _ (by decide +kernel)) ggX7_rates_X7_in
set_option maxRecDepth 20000 in
theorem ggX7_rates_X7_isNoted : GoodIn wsX7_rates wsX7_isNoted := goodIn_r _ [16, 17, 18, 19, 20, 21, 22, 23, 4, 24, 25, 26, 27, 28, 29, 30, 31, 32, 33, 34, 35, 36, 37, 38, 39, 40, 41, 42, 43, 44, 45, 46, 47, 48, 49, 50] (by decide +kernel) (by decide +kernel)
set_option maxRecDepth 20000 in
theorem gX7_rates_X7_isNoted : GoodIn wsX7_rates (wsV RX7 184 RX7 yX7_isNoted wsX7_isNoted) := goodIn_app (goodIn_of _ (by decide +kernel)) ggX7_rates_X7_isNoted
theorem dX7_rates_0 : decode cX7_rates 0 = .ok (.aload_n 0, 1) := by decide +kernel
theorem dX7_rates_1 : decode cX7_rates 1 = .ok (.iload_n 1, 1) := by decide +kernel
theorem dX7_rates_2 : decode cX7_rates 2 = .ok (.invokevirtual 143, 3) := by decide +kernel
theorem dX7_rates_5 : decode cX7_rates 5 = .ok (.ifCond .ne 6, 3) := by decide +kernel
theorem dX7_rates_8 : decode cX7_rates 8 = .ok (.bipush (-2), 2) := by decide +kernel
theorem dX7_rates_10 : decode cX7_rates 10 = .ok (.ireturn, 1) := by decide +kernel
theorem dX7_rates_11 : decode cX7_rates 11 = .ok (.iload_n 2, 1) := by decide +kernel
theorem dX7_rates_12 : decode cX7_rates 12 = .ok (.iconst 0, 1) := by decide +kernel
theorem dX7_rates_13 : decode cX7_rates 13 = .ok (.iconst 2, 1) := by decide +kernel
theorem dX7_rates_14 : decode cX7_rates 14 = .ok (.invokestatic 41, 3) := by decide +kernel
theorem dX7_rates_17 : decode cX7_rates 17 = .ok (.ifCond .ne 6, 3) := by decide +kernel
theorem dX7_rates_20 : decode cX7_rates 20 = .ok (.bipush (-3), 2) := by decide +kernel
theorem dX7_rates_22 : decode cX7_rates 22 = .ok (.ireturn, 1) := by decide +kernel
theorem dX7_rates_23 : decode cX7_rates 23 = .ok (.iconst 0, 1) := by decide +kernel
theorem dX7_rates_24 : decode cX7_rates 24 = .ok (.istore_n 3, 1) := by decide +kernel
theorem dX7_rates_25 : decode cX7_rates 25 = .ok (.iconst (-1), 1) := by decide +kernel
theorem dX7_rates_26 : decode cX7_rates 26 = .ok (.istore 4, 2) := by decide +kernel
theorem dX7_rates_28 : decode cX7_rates 28 = .ok (.iconst (-1), 1) := by decide +kernel
theorem dX7_rates_29 : decode cX7_rates 29 = .ok (.istore 5, 2) := by decide +kernel
theorem dX7_rates_31 : decode cX7_rates 31 = .ok (.bipush (-120), 2) := by decide +kernel
theorem dX7_rates_33 : decode cX7_rates 33 = .ok (.istore 6, 2) := by decide +kernel
theorem dX7_rates_35 : decode cX7_rates 35 = .ok (.iload 6, 2) := by decide +kernel
theorem dX7_rates_37 : decode cX7_rates 37 = .ok (.bipush 121, 2) := by decide +kernel
theorem dX7_rates_39 : decode cX7_rates 39 = .ok (.if_icmp .ge 45, 3) := by decide +kernel
theorem dX7_rates_42 : decode cX7_rates 42 = .ok (.aload_n 0, 1) := by decide +kernel
theorem dX7_rates_43 : decode cX7_rates 43 = .ok (.iload_n 1, 1) := by decide +kernel
theorem dX7_rates_44 : decode cX7_rates 44 = .ok (.iload 6, 2) := by decide +kernel
theorem dX7_rates_46 : decode cX7_rates 46 = .ok (.invokevirtual 184, 3) := by decide +kernel
theorem dX7_rates_49 : decode cX7_rates 49 = .ok (.ifCond .eq 29, 3) := by decide +kernel
theorem dX7_rates_52 : decode cX7_rates 52 = .ok (.iload_n 3, 1) := by decide +kernel
theorem dX7_rates_53 : decode cX7_rates 53 = .ok (.ifCond .ne 11, 3) := by decide +kernel
theorem dX7_rates_56 : decode cX7_rates 56 = .ok (.iload 6, 2) := by decide +kernel
theorem dX7_rates_58 : decode cX7_rates 58 = .ok (.bipush 120, 2) := by decide +kernel
theorem dX7_rates_60 : decode cX7_rates 60 = .ok (.iadd, 1) := by decide +kernel
theorem dX7_rates_61 : decode cX7_rates 61 = .ok (.goto 5, 3) := by decide +kernel
theorem dX7_rates_64 : decode cX7_rates 64 = .ok (.iload 4, 2) := by decide +kernel
theorem dX7_rates_66 : decode cX7_rates 66 = .ok (.istore 4, 2) := by decide +kernel
theorem dX7_rates_68 : decode cX7_rates 68 = .ok (.iload 6, 2) := by decide +kernel
theorem dX7_rates_70 : decode cX7_rates 70 = .ok (.bipush 120, 2) := by decide +kernel
theorem dX7_rates_72 : decode cX7_rates 72 = .ok (.iadd, 1) := by decide +kernel
theorem dX7_rates_73 : decode cX7_rates 73 = .ok (.istore 5, 2) := by decide +kernel
theorem dX7_rates_75 : decode cX7_rates 75 = .ok (.iinc 3 1, 3) := by decide +kernel
theorem dX7_rates_78 : decode cX7_rates 78 = .ok (.iinc 6 1, 3) := by decide +kernel
theorem dX7_rates_81 : decode cX7_rates 81 = .ok (.goto (-46), 3) := by decide +kernel
theorem dX7_rates_84 : decode cX7_rates 84 = .ok (.iload_n 2, 1) := by decide +kernel
theorem dX7_rates_85 : decode cX7_rates 85 = .ok (.ifCond .ne 7, 3) := by decide +kernel
theorem dX7_rates_88 : decode cX7_rates 88 = .ok (.iload_n 3, 1) := by decide +kernel
theorem dX7_rates_89 : decode cX7_rates 89 = .ok (.goto 15, 3) := by decide +kernel
theorem dX7_rates_92 : decode cX7_rates 92 = .ok (.iload_n 2, 1) := by decide +kernel
theorem dX7_rates_93 : decode cX7_rates 93 = .ok (.iconst 1, 1) := by decide +kernel
theorem dX7_rates_94 : decode cX7_rates 94 = .ok (.if_icmp .ne 8, 3) := by decide +kernel
theorem dX7_rates_97 : decode cX7_rates 97 = .ok (.iload 4, 2) := by decide +kernel
theorem dX7_rates_99 : decode cX7_rates 99 = .ok (.goto 5, 3) := by decide +kernel
theorem dX7_rates_102 : decode cX7_rates 102 = .ok (.iload 5, 2) := by decide +kernel
theorem dX7_rates_104 : decode cX7_rates 104 = .ok (.ireturn, 1) := by decide +kernel
theorem dX7_common_0 : decode cX7_common 0 = .ok (.iload_n 0, 1) := by decide +kernel
theorem dX7_common_1 : decode cX7_common 1 = .ok (.istore_n 2, 1) := by decide +kernel
theorem dX7_common_2 : decode cX7_common 2 = .ok (.iload_n 1, 1) := by decide +kernel
theorem dX7_common_3 : decode cX7_common 3 = .ok (.istore_n 3, 1) := by decide +kernel
theorem dX7_common_4 : decode cX7_common 4 = .ok (.iload_n 3, 1) := by decide +kernel
theorem dX7_common_5 : decode cX7_common 5 = .ok (.ifCond .eq 16, 3) := by decide +kernel
theorem dX7_common_8 : decode cX7_common 8 = .ok (.iload_n 2, 1) := by decide +kernel
theorem dX7_common_9 : decode cX7_common 9 = .ok (.iload_n 3, 1) := by decide +kernel
theorem dX7_common_10 : decode cX7_common 10 = .ok (.irem, 1) := by decide +kernel
theorem dX7_common_11 : decode cX7_common 11 = .ok (.istore 4, 2) := by decide +kernel
theorem dX7_common_13 : decode cX7_common 13 = .ok (.iload_n 3, 1) := by decide +kernel
theorem dX7_common_14 : decode cX7_common 14 = .ok (.istore_n 2, 1) := by decide +kernel
theorem dX7_common_15 : decode cX7_common 15 = .ok (.iload 4, 2) := by decide +kernel
theorem dX7_common_17 : decode cX7_common 17 = .ok (.istore_n 3, 1) := by decide +kernel
theorem dX7_common_18 : decode cX7_common 18 = .ok (.goto (-14), 3) := by decide +kernel
theorem dX7_common_21 : decode cX7_common 21 = .ok (.iload_n 2, 1) := by decide +kernel
theorem dX7_common_22 : decode cX7_common 22 = .ok (.ireturn, 1) := by decide +kernel
set_option maxRecDepth 20000 in
theorem ggX7_isAgain_X7_hand : GoodIn wsX7_isAgain wsX7_hand := goodIn_r _ [10, 1, 17, 18, 19, 20, 21, 22, 23, 24, 25, 26, 27, 28, 29, 30, 31, 32, 33, 34, 35, 36, 37, 38, 39, 40, 41, 42] (by decide +kernel) (by decide +kernel)
set_option maxRecDepth 20000 in
theorem gX7_isAgain_X7_hand : GoodIn wsX7_isAgain (wsV RX7 153 RX7 yX7_hand wsX7_hand) := goodIn_app (goodIn_of _ (by decide +kernel)) ggX7_isAgain_X7_hand
set_option maxRecDepth 20000 in
theorem ggX7_isAgain_X7_rest : GoodIn wsX7_isAgain wsX7_rest := goodIn_r _ [13] (by decide +kernel) (by decide +kernel)
set_option maxRecDepth 20000 in
theorem gX7_isAgain_X7_rest : GoodIn wsX7_isAgain (va_wsS RX7 146 yX7_rest wsX7_rest) := goodIn_app (goodIn_of _ (by decide +kernel)) ggX7_isAgain_X7_rest
set_option maxRecDepth 20000 in
theorem ggX7_isAgain_X7_common : GoodIn wsX7_isAgain wsX7_common := goodIn_r _ [16] (by decide +kernel) (by decide +kernel)
set_option maxRecDepth 20000 in
theorem gX7_isAgain_X7_common : GoodIn wsX7_isAgain (va_wsS RX7 187 yX7_common wsX7_common) := goodIn_app (goodIn_of _ (by decide +kernel)) ggX7_isAgain_X7_common
theorem dX7_isAgain_0 : decode cX7_isAgain 0 = .ok (.aload_n 0, 1) := by decide +kernel
theorem dX7_isAgain_1 : decode cX7_isAgain 1 = .ok (.getfield 7, 3) := by decide +kernel
theorem dX7_isAgain_4 : decode cX7_isAgain 4 = .ok (.bipush 6, 2) := by decide +kernel
theorem dX7_isAgain_6 : decode cX7_isAgain 6 = .ok (.iload_n 2, 1) := by decide +kernel
theorem dX7_isAgain_7 : decode cX7_isAgain 7 = .ok (.imul, 1) := by decide +kernel
theorem dX7_isAgain_8 : decode cX7_isAgain 8 = .ok (.iconst 3, 1) := by decide +kernel
theorem dX7_isAgain_9 : decode cX7_isAgain 9 = .ok (.iadd, 1) := by decide +kernel
theorem dX7_isAgain_10 : decode cX7_isAgain 10 = .ok (.iaload, 1) := by decide +kernel
theorem dX7_isAgain_11 : decode cX7_isAgain 11 = .ok (.aload_n 0, 1) := by decide +kernel
theorem dX7_isAgain_12 : decode cX7_isAgain 12 = .ok (.getfield 7, 3) := by decide +kernel
theorem dX7_isAgain_15 : decode cX7_isAgain 15 = .ok (.bipush 6, 2) := by decide +kernel
theorem dX7_isAgain_17 : decode cX7_isAgain 17 = .ok (.iload_n 1, 1) := by decide +kernel
theorem dX7_isAgain_18 : decode cX7_isAgain 18 = .ok (.imul, 1) := by decide +kernel
theorem dX7_isAgain_19 : decode cX7_isAgain 19 = .ok (.iconst 3, 1) := by decide +kernel
theorem dX7_isAgain_20 : decode cX7_isAgain 20 = .ok (.iadd, 1) := by decide +kernel
theorem dX7_isAgain_21 : decode cX7_isAgain 21 = .ok (.iaload, 1) := by decide +kernel
theorem dX7_isAgain_22 : decode cX7_isAgain 22 = .ok (.isub, 1) := by decide +kernel
theorem dX7_isAgain_23 : decode cX7_isAgain 23 = .ok (.istore_n 3, 1) := by decide +kernel
theorem dX7_isAgain_24 : decode cX7_isAgain 24 = .ok (.aload_n 0, 1) := by decide +kernel
theorem dX7_isAgain_25 : decode cX7_isAgain 25 = .ok (.iload_n 2, 1) := by decide +kernel
theorem dX7_isAgain_26 : decode cX7_isAgain 26 = .ok (.iconst 0, 1) := by decide +kernel
theorem dX7_isAgain_27 : decode cX7_isAgain 27 = .ok (.aload_n 0, 1) := by decide +kernel
theorem dX7_isAgain_28 : decode cX7_isAgain 28 = .ok (.getfield 7, 3) := by decide +kernel
theorem dX7_isAgain_31 : decode cX7_isAgain 31 = .ok (.bipush 6, 2) := by decide +kernel
theorem dX7_isAgain_33 : decode cX7_isAgain 33 = .ok (.iload_n 2, 1) := by decide +kernel
theorem dX7_isAgain_34 : decode cX7_isAgain 34 = .ok (.imul, 1) := by decide +kernel
theorem dX7_isAgain_35 : decode cX7_isAgain 35 = .ok (.iconst 3, 1) := by decide +kernel
theorem dX7_isAgain_36 : decode cX7_isAgain 36 = .ok (.iadd, 1) := by decide +kernel
theorem dX7_isAgain_37 : decode cX7_isAgain 37 = .ok (.iaload, 1) := by decide +kernel
theorem dX7_isAgain_38 : decode cX7_isAgain 38 = .ok (.invokevirtual 153, 3) := by decide +kernel
theorem dX7_isAgain_41 : decode cX7_isAgain 41 = .ok (.aload_n 0, 1) := by decide +kernel
theorem dX7_isAgain_42 : decode cX7_isAgain 42 = .ok (.iload_n 1, 1) := by decide +kernel
theorem dX7_isAgain_43 : decode cX7_isAgain 43 = .ok (.iconst 0, 1) := by decide +kernel
theorem dX7_isAgain_44 : decode cX7_isAgain 44 = .ok (.aload_n 0, 1) := by decide +kernel
theorem dX7_isAgain_45 : decode cX7_isAgain 45 = .ok (.getfield 7, 3) := by decide +kernel
theorem dX7_isAgain_48 : decode cX7_isAgain 48 = .ok (.bipush 6, 2) := by decide +kernel
theorem dX7_isAgain_50 : decode cX7_isAgain 50 = .ok (.iload_n 1, 1) := by decide +kernel
theorem dX7_isAgain_51 : decode cX7_isAgain 51 = .ok (.imul, 1) := by decide +kernel
theorem dX7_isAgain_52 : decode cX7_isAgain 52 = .ok (.iconst 3, 1) := by decide +kernel
theorem dX7_isAgain_53 : decode cX7_isAgain 53 = .ok (.iadd, 1) := by decide +kernel
theorem dX7_isAgain_54 : decode cX7_isAgain 54 = .ok (.iaload, 1) := by decide +kernel
theorem dX7_isAgain_55 : decode cX7_isAgain 55 = .ok (.invokevirtual 153, 3) := by decide +kernel
theorem dX7_isAgain_58 : decode cX7_isAgain 58 = .ok (.isub, 1) := by decide +kernel
theorem dX7_isAgain_59 : decode cX7_isAgain 59 = .ok (.ldc 182, 2) := by decide +kernel
theorem dX7_isAgain_61 : decode cX7_isAgain 61 = .ok (.invokestatic 146, 3) := by decide +kernel
theorem dX7_isAgain_64 : decode cX7_isAgain 64 = .ok (.istore 4, 2) := by decide +kernel
theorem dX7_isAgain_66 : decode cX7_isAgain 66 = .ok (.ldc 182, 2) := by decide +kernel
theorem dX7_isAgain_68 : decode cX7_isAgain 68 = .ok (.ldc 182, 2) := by decide +kernel
theorem dX7_isAgain_70 : decode cX7_isAgain 70 = .ok (.iload_n 3, 1) := by decide +kernel
theorem dX7_isAgain_71 : decode cX7_isAgain 71 = .ok (.ifCond .ge 8, 3) := by decide +kernel
theorem dX7_isAgain_74 : decode cX7_isAgain 74 = .ok (.iload_n 3, 1) := by decide +kernel
theorem dX7_isAgain_75 : decode cX7_isAgain 75 = .ok (.ineg, 1) := by decide +kernel
theorem dX7_isAgain_76 : decode cX7_isAgain 76 = .ok (.goto 4, 3) := by decide +kernel
theorem dX7_isAgain_79 : decode cX7_isAgain 79 = .ok (.iload_n 3, 1) := by decide +kernel
theorem dX7_isAgain_80 : decode cX7_isAgain 80 = .ok (.invokestatic 187, 3) := by decide +kernel
theorem dX7_isAgain_83 : decode cX7_isAgain 83 = .ok (.idiv, 1) := by decide +kernel
theorem dX7_isAgain_84 : decode cX7_isAgain 84 = .ok (.istore 5, 2) := by decide +kernel
theorem dX7_isAgain_86 : decode cX7_isAgain 86 = .ok (.iload 5, 2) := by decide +kernel
theorem dX7_isAgain_88 : decode cX7_isAgain 88 = .ok (.aload_n 0, 1) := by decide +kernel
theorem dX7_isAgain_89 : decode cX7_isAgain 89 = .ok (.getfield 190, 3) := by decide +kernel
theorem dX7_isAgain_92 : decode cX7_isAgain 92 = .ok (.iload 5, 2) := by decide +kernel
theorem dX7_isAgain_94 : decode cX7_isAgain 94 = .ok (.invokestatic 187, 3) := by decide +kernel
theorem dX7_isAgain_97 : decode cX7_isAgain 97 = .ok (.idiv, 1) := by decide +kernel
theorem dX7_isAgain_98 : decode cX7_isAgain 98 = .ok (.istore 6, 2) := by decide +kernel
theorem dX7_isAgain_100 : decode cX7_isAgain 100 = .ok (.iconst 0, 1) := by decide +kernel
theorem dX7_isAgain_101 : decode cX7_isAgain 101 = .ok (.istore 7, 2) := by decide +kernel
theorem dX7_isAgain_103 : decode cX7_isAgain 103 = .ok (.iload 7, 2) := by decide +kernel
theorem dX7_isAgain_105 : decode cX7_isAgain 105 = .ok (.iload 6, 2) := by decide +kernel
theorem dX7_isAgain_107 : decode cX7_isAgain 107 = .ok (.if_icmp .ge 66, 3) := by decide +kernel
theorem dX7_isAgain_110 : decode cX7_isAgain 110 = .ok (.iload 4, 2) := by decide +kernel
theorem dX7_isAgain_112 : decode cX7_isAgain 112 = .ok (.i2l, 1) := by decide +kernel
theorem dX7_isAgain_113 : decode cX7_isAgain 113 = .ok (.iload_n 3, 1) := by decide +kernel
theorem dX7_isAgain_114 : decode cX7_isAgain 114 = .ok (.i2l, 1) := by decide +kernel
theorem dX7_isAgain_115 : decode cX7_isAgain 115 = .ok (.aload_n 0, 1) := by decide +kernel
theorem dX7_isAgain_116 : decode cX7_isAgain 116 = .ok (.getfield 193, 3) := by decide +kernel
theorem dX7_isAgain_119 : decode cX7_isAgain 119 = .ok (.i2l, 1) := by decide +kernel
theorem dX7_isAgain_120 : decode cX7_isAgain 120 = .ok (.lmul, 1) := by decide +kernel
theorem dX7_isAgain_121 : decode cX7_isAgain 121 = .ok (.ladd, 1) := by decide +kernel
theorem dX7_isAgain_122 : decode cX7_isAgain 122 = .ok (.ldc2_w 196, 3) := by decide +kernel
theorem dX7_isAgain_125 : decode cX7_isAgain 125 = .ok (.lrem, 1) := by decide +kernel
theorem dX7_isAgain_126 : decode cX7_isAgain 126 = .ok (.lconst 0, 1) := by decide +kernel
theorem dX7_isAgain_127 : decode cX7_isAgain 127 = .ok (.lcmp, 1) := by decide +kernel
theorem dX7_isAgain_128 : decode cX7_isAgain 128 = .ok (.ifCond .ne 26, 3) := by decide +kernel
theorem dX7_isAgain_131 : decode cX7_isAgain 131 = .ok (.aload_n 0, 1) := by decide +kernel
theorem dX7_isAgain_132 : decode cX7_isAgain 132 = .ok (.aload_n 0, 1) := by decide +kernel
theorem dX7_isAgain_133 : decode cX7_isAgain 133 = .ok (.getfield 190, 3) := by decide +kernel
theorem dX7_isAgain_136 : decode cX7_isAgain 136 = .ok (.aload_n 0, 1) := by decide +kernel
theorem dX7_isAgain_137 : decode cX7_isAgain 137 = .ok (.getfield 190, 3) := by decide +kernel
theorem dX7_isAgain_140 : decode cX7_isAgain 140 = .ok (.iload 5, 2) := by decide +kernel
theorem dX7_isAgain_142 : decode cX7_isAgain 142 = .ok (.invokestatic 187, 3) := by decide +kernel
theorem dX7_isAgain_145 : decode cX7_isAgain 145 = .ok (.idiv, 1) := by decide +kernel
theorem dX7_isAgain_146 : decode cX7_isAgain 146 = .ok (.iload 5, 2) := by decide +kernel
theorem dX7_isAgain_148 : decode cX7_isAgain 148 = .ok (.imul, 1) := by decide +kernel
theorem dX7_isAgain_149 : decode cX7_isAgain 149 = .ok (.putfield 190, 3) := by decide +kernel
theorem dX7_isAgain_152 : decode cX7_isAgain 152 = .ok (.iconst 1, 1) := by decide +kernel
theorem dX7_isAgain_153 : decode cX7_isAgain 153 = .ok (.ireturn, 1) := by decide +kernel
theorem dX7_isAgain_154 : decode cX7_isAgain 154 = .ok (.aload_n 0, 1) := by decide +kernel
theorem dX7_isAgain_155 : decode cX7_isAgain 155 = .ok (.dup, 1) := by decide +kernel
theorem dX7_isAgain_156 : decode cX7_isAgain 156 = .ok (.getfield 193, 3) := by decide +kernel
theorem dX7_isAgain_159 : decode cX7_isAgain 159 = .ok (.aload_n 0, 1) := by decide +kernel
theorem dX7_isAgain_160 : decode cX7_isAgain 160 = .ok (.getfield 190, 3) := by decide +kernel
theorem dX7_isAgain_163 : decode cX7_isAgain 163 = .ok (.iadd, 1) := by decide +kernel
theorem dX7_isAgain_164 : decode cX7_isAgain 164 = .ok (.putfield 193, 3) := by decide +kernel
theorem dX7_isAgain_167 : decode cX7_isAgain 167 = .ok (.iinc 7 1, 3) := by decide +kernel
theorem dX7_isAgain_170 : decode cX7_isAgain 170 = .ok (.goto (-67), 3) := by decide +kernel
theorem dX7_isAgain_173 : decode cX7_isAgain 173 = .ok (.iconst 0, 1) := by decide +kernel
theorem dX7_isAgain_174 : decode cX7_isAgain 174 = .ok (.ireturn, 1) := by decide +kernel
set_option maxRecDepth 20000 in
theorem ggX7_isFirstAgain_X7_hand : GoodIn wsX7_isFirstAgain wsX7_hand := goodIn_r _ [9, 1, 16, 17, 18, 19, 20, 21, 22, 23, 24, 25, 26, 27, 28, 29, 30, 31, 32, 33, 34, 35, 36, 37, 38, 39, 40, 41] (by decide +kernel) (by decide +kernel)
set_option maxRecDepth 20000 in
theorem gX7_isFirstAgain_X7_hand : GoodIn wsX7_isFirstAgain (wsV RX7 153 RX7 yX7_hand wsX7_hand) := goodIn_app (goodIn_of _ (by decide +kernel)) ggX7_isFirstAgain_X7_hand
set_option maxRecDepth 20000 in
theorem ggX7_isFirstAgain_X7_rest : GoodIn wsX7_isFirstAgain wsX7_rest := goodIn_r _ [12] (by decide +kernel) (by decide +kernel)
set_option maxRecDepth 20000 in
theorem gX7_isFirstAgain_X7_rest : GoodIn wsX7_isFirstAgain (va_wsS RX7 146 yX7_rest wsX7_rest) := goodIn_app (goodIn_of _ (by decide +kernel)) ggX7_isFirstAgain_X7_rest
set_option maxRecDepth 20000 in
theorem ggX7_isFirstAgain_X7_common : GoodIn wsX7_isFirstAgain wsX7_common := goodIn_r _ [15] (by decide +kernel) (by decide +kernel)
set_option maxRecDepth 20000 in
theorem gX7_isFirstAgain_X7_common : GoodIn wsX7_isFirstAgain (va_wsS RX7 187 yX7_common wsX7_common) := goodIn_app (goodIn_of _ (by decide +kernel)) ggX7_isFirstAgain_X7_common
theorem dX7_isFirstAgain_0 : decode cX7_isFirstAgain 0 = .ok (.aload_n 0, 1) := by decide +kernel
theorem dX7_isFirstAgain_1 : decode cX7_isFirstAgain 1 = .ok (.getfield 7, 3) := by decide +kernel
theorem dX7_isFirstAgain_4 : decode cX7_isFirstAgain 4 = .ok (.bipush 6, 2) := by decide +kernel
theorem dX7_isFirstAgain_6 : decode cX7_isFirstAgain 6 = .ok (.iload_n 2, 1) := by decide +kernel
theorem dX7_isFirstAgain_7 : decode cX7_isFirstAgain 7 = .ok (.imul, 1) := by decide +kernel
theorem dX7_isFirstAgain_8 : decode cX7_isFirstAgain 8 = .ok (.iconst 3, 1) := by decide +kernel
theorem dX7_isFirstAgain_9 : decode cX7_isFirstAgain 9 = .ok (.iadd, 1) := by decide +kernel
theorem dX7_isFirstAgain_10 : decode cX7_isFirstAgain 10 = .ok (.iaload, 1) := by decide +kernel
theorem dX7_isFirstAgain_11 : decode cX7_isFirstAgain 11 = .ok (.aload_n 0, 1) := by decide +kernel
theorem dX7_isFirstAgain_12 : decode cX7_isFirstAgain 12 = .ok (.getfield 7, 3) := by decide +kernel
theorem dX7_isFirstAgain_15 : decode cX7_isFirstAgain 15 = .ok (.bipush 6, 2) := by decide +kernel
theorem dX7_isFirstAgain_17 : decode cX7_isFirstAgain 17 = .ok (.iload_n 1, 1) := by decide +kernel
theorem dX7_isFirstAgain_18 : decode cX7_isFirstAgain 18 = .ok (.imul, 1) := by decide +kernel
theorem dX7_isFirstAgain_19 : decode cX7_isFirstAgain 19 = .ok (.iconst 3, 1) := by decide +kernel
theorem dX7_isFirstAgain_20 : decode cX7_isFirstAgain 20 = .ok (.iadd, 1) := by decide +kernel
theorem dX7_isFirstAgain_21 : decode cX7_isFirstAgain 21 = .ok (.iaload, 1) := by decide +kernel
theorem dX7_isFirstAgain_22 : decode cX7_isFirstAgain 22 = .ok (.isub, 1) := by decide +kernel
theorem dX7_isFirstAgain_23 : decode cX7_isFirstAgain 23 = .ok (.istore 4, 2) := by decide +kernel
theorem dX7_isFirstAgain_25 : decode cX7_isFirstAgain 25 = .ok (.aload_n 0, 1) := by decide +kernel
theorem dX7_isFirstAgain_26 : decode cX7_isFirstAgain 26 = .ok (.iload_n 2, 1) := by decide +kernel
theorem dX7_isFirstAgain_27 : decode cX7_isFirstAgain 27 = .ok (.iconst 0, 1) := by decide +kernel
theorem dX7_isFirstAgain_28 : decode cX7_isFirstAgain 28 = .ok (.aload_n 0, 1) := by decide +kernel
theorem dX7_isFirstAgain_29 : decode cX7_isFirstAgain 29 = .ok (.getfield 7, 3) := by decide +kernel
theorem dX7_isFirstAgain_32 : decode cX7_isFirstAgain 32 = .ok (.bipush 6, 2) := by decide +kernel
theorem dX7_isFirstAgain_34 : decode cX7_isFirstAgain 34 = .ok (.iload_n 2, 1) := by decide +kernel
theorem dX7_isFirstAgain_35 : decode cX7_isFirstAgain 35 = .ok (.imul, 1) := by decide +kernel
theorem dX7_isFirstAgain_36 : decode cX7_isFirstAgain 36 = .ok (.iconst 3, 1) := by decide +kernel
theorem dX7_isFirstAgain_37 : decode cX7_isFirstAgain 37 = .ok (.iadd, 1) := by decide +kernel
theorem dX7_isFirstAgain_38 : decode cX7_isFirstAgain 38 = .ok (.iaload, 1) := by decide +kernel
theorem dX7_isFirstAgain_39 : decode cX7_isFirstAgain 39 = .ok (.invokevirtual 153, 3) := by decide +kernel
theorem dX7_isFirstAgain_42 : decode cX7_isFirstAgain 42 = .ok (.aload_n 0, 1) := by decide +kernel
theorem dX7_isFirstAgain_43 : decode cX7_isFirstAgain 43 = .ok (.iload_n 1, 1) := by decide +kernel
theorem dX7_isFirstAgain_44 : decode cX7_isFirstAgain 44 = .ok (.iconst 0, 1) := by decide +kernel
theorem dX7_isFirstAgain_45 : decode cX7_isFirstAgain 45 = .ok (.aload_n 0, 1) := by decide +kernel
theorem dX7_isFirstAgain_46 : decode cX7_isFirstAgain 46 = .ok (.getfield 7, 3) := by decide +kernel
theorem dX7_isFirstAgain_49 : decode cX7_isFirstAgain 49 = .ok (.bipush 6, 2) := by decide +kernel
theorem dX7_isFirstAgain_51 : decode cX7_isFirstAgain 51 = .ok (.iload_n 1, 1) := by decide +kernel
theorem dX7_isFirstAgain_52 : decode cX7_isFirstAgain 52 = .ok (.imul, 1) := by decide +kernel
theorem dX7_isFirstAgain_53 : decode cX7_isFirstAgain 53 = .ok (.iconst 3, 1) := by decide +kernel
theorem dX7_isFirstAgain_54 : decode cX7_isFirstAgain 54 = .ok (.iadd, 1) := by decide +kernel
theorem dX7_isFirstAgain_55 : decode cX7_isFirstAgain 55 = .ok (.iaload, 1) := by decide +kernel
theorem dX7_isFirstAgain_56 : decode cX7_isFirstAgain 56 = .ok (.invokevirtual 153, 3) := by decide +kernel
theorem dX7_isFirstAgain_59 : decode cX7_isFirstAgain 59 = .ok (.isub, 1) := by decide +kernel
theorem dX7_isFirstAgain_60 : decode cX7_isFirstAgain 60 = .ok (.ldc 182, 2) := by decide +kernel
theorem dX7_isFirstAgain_62 : decode cX7_isFirstAgain 62 = .ok (.invokestatic 146, 3) := by decide +kernel
theorem dX7_isFirstAgain_65 : decode cX7_isFirstAgain 65 = .ok (.istore 5, 2) := by decide +kernel
theorem dX7_isFirstAgain_67 : decode cX7_isFirstAgain 67 = .ok (.ldc 182, 2) := by decide +kernel
theorem dX7_isFirstAgain_69 : decode cX7_isFirstAgain 69 = .ok (.iload 4, 2) := by decide +kernel
theorem dX7_isFirstAgain_71 : decode cX7_isFirstAgain 71 = .ok (.ifCond .ge 9, 3) := by decide +kernel
theorem dX7_isFirstAgain_74 : decode cX7_isFirstAgain 74 = .ok (.iload 4, 2) := by decide +kernel
theorem dX7_isFirstAgain_76 : decode cX7_isFirstAgain 76 = .ok (.ineg, 1) := by decide +kernel
theorem dX7_isFirstAgain_77 : decode cX7_isFirstAgain 77 = .ok (.goto 5, 3) := by decide +kernel
theorem dX7_isFirstAgain_80 : decode cX7_isFirstAgain 80 = .ok (.iload 4, 2) := by decide +kernel
theorem dX7_isFirstAgain_82 : decode cX7_isFirstAgain 82 = .ok (.invokestatic 187, 3) := by decide +kernel
theorem dX7_isFirstAgain_85 : decode cX7_isFirstAgain 85 = .ok (.istore 6, 2) := by decide +kernel
theorem dX7_isFirstAgain_87 : decode cX7_isFirstAgain 87 = .ok (.aload_n 0, 1) := by decide +kernel
theorem dX7_isFirstAgain_88 : decode cX7_isFirstAgain 88 = .ok (.ldc 182, 2) := by decide +kernel
theorem dX7_isFirstAgain_90 : decode cX7_isFirstAgain 90 = .ok (.iload 6, 2) := by decide +kernel
theorem dX7_isFirstAgain_92 : decode cX7_isFirstAgain 92 = .ok (.idiv, 1) := by decide +kernel
theorem dX7_isFirstAgain_93 : decode cX7_isFirstAgain 93 = .ok (.putfield 190, 3) := by decide +kernel
theorem dX7_isFirstAgain_96 : decode cX7_isFirstAgain 96 = .ok (.iload 5, 2) := by decide +kernel
theorem dX7_isFirstAgain_98 : decode cX7_isFirstAgain 98 = .ok (.iload 6, 2) := by decide +kernel
theorem dX7_isFirstAgain_100 : decode cX7_isFirstAgain 100 = .ok (.irem, 1) := by decide +kernel
theorem dX7_isFirstAgain_101 : decode cX7_isFirstAgain 101 = .ok (.ifCond .eq 5, 3) := by decide +kernel
theorem dX7_isFirstAgain_104 : decode cX7_isFirstAgain 104 = .ok (.iconst 0, 1) := by decide +kernel
theorem dX7_isFirstAgain_105 : decode cX7_isFirstAgain 105 = .ok (.ireturn, 1) := by decide +kernel
theorem dX7_isFirstAgain_106 : decode cX7_isFirstAgain 106 = .ok (.iload 4, 2) := by decide +kernel
theorem dX7_isFirstAgain_108 : decode cX7_isFirstAgain 108 = .ok (.ifCond .ne 7, 3) := by decide +kernel
theorem dX7_isFirstAgain_111 : decode cX7_isFirstAgain 111 = .ok (.iconst 0, 1) := by decide +kernel
theorem dX7_isFirstAgain_112 : decode cX7_isFirstAgain 112 = .ok (.goto 15, 3) := by decide +kernel
theorem dX7_isFirstAgain_115 : decode cX7_isFirstAgain 115 = .ok (.iload 4, 2) := by decide +kernel
theorem dX7_isFirstAgain_117 : decode cX7_isFirstAgain 117 = .ok (.iload 6, 2) := by decide +kernel
theorem dX7_isFirstAgain_119 : decode cX7_isFirstAgain 119 = .ok (.idiv, 1) := by decide +kernel
theorem dX7_isFirstAgain_120 : decode cX7_isFirstAgain 120 = .ok (.aload_n 0, 1) := by decide +kernel
theorem dX7_isFirstAgain_121 : decode cX7_isFirstAgain 121 = .ok (.getfield 190, 3) := by decide +kernel
theorem dX7_isFirstAgain_124 : decode cX7_isFirstAgain 124 = .ok (.invokestatic 146, 3) := by decide +kernel
theorem dX7_isFirstAgain_127 : decode cX7_isFirstAgain 127 = .ok (.istore 7, 2) := by decide +kernel
theorem dX7_isFirstAgain_129 : decode cX7_isFirstAgain 129 = .ok (.iload 5, 2) := by decide +kernel
theorem dX7_isFirstAgain_131 : decode cX7_isFirstAgain 131 = .ok (.iload 6, 2) := by decide +kernel
theorem dX7_isFirstAgain_133 : decode cX7_isFirstAgain 133 = .ok (.idiv, 1) := by decide +kernel
theorem dX7_isFirstAgain_134 : decode cX7_isFirstAgain 134 = .ok (.ineg, 1) := by decide +kernel
theorem dX7_isFirstAgain_135 : decode cX7_isFirstAgain 135 = .ok (.aload_n 0, 1) := by decide +kernel
theorem dX7_isFirstAgain_136 : decode cX7_isFirstAgain 136 = .ok (.getfield 190, 3) := by decide +kernel
theorem dX7_isFirstAgain_139 : decode cX7_isFirstAgain 139 = .ok (.invokestatic 146, 3) := by decide +kernel
theorem dX7_isFirstAgain_142 : decode cX7_isFirstAgain 142 = .ok (.istore 8, 2) := by decide +kernel
theorem dX7_isFirstAgain_144 : decode cX7_isFirstAgain 144 = .ok (.lconst 0, 1) := by decide +kernel
theorem dX7_isFirstAgain_145 : decode cX7_isFirstAgain 145 = .ok (.lstore 9, 2) := by decide +kernel
theorem dX7_isFirstAgain_147 : decode cX7_isFirstAgain 147 = .ok (.lconst 1, 1) := by decide +kernel
theorem dX7_isFirstAgain_148 : decode cX7_isFirstAgain 148 = .ok (.lstore 11, 2) := by decide +kernel
theorem dX7_isFirstAgain_150 : decode cX7_isFirstAgain 150 = .ok (.iload 7, 2) := by decide +kernel
theorem dX7_isFirstAgain_152 : decode cX7_isFirstAgain 152 = .ok (.i2l, 1) := by decide +kernel
theorem dX7_isFirstAgain_153 : decode cX7_isFirstAgain 153 = .ok (.lstore 13, 2) := by decide +kernel
theorem dX7_isFirstAgain_155 : decode cX7_isFirstAgain 155 = .ok (.aload_n 0, 1) := by decide +kernel
theorem dX7_isFirstAgain_156 : decode cX7_isFirstAgain 156 = .ok (.getfield 190, 3) := by decide +kernel
theorem dX7_isFirstAgain_159 : decode cX7_isFirstAgain 159 = .ok (.istore 15, 2) := by decide +kernel
theorem dX7_isFirstAgain_161 : decode cX7_isFirstAgain 161 = .ok (.iconst 2, 1) := by decide +kernel
theorem dX7_isFirstAgain_162 : decode cX7_isFirstAgain 162 = .ok (.istore 16, 2) := by decide +kernel
theorem dX7_isFirstAgain_164 : decode cX7_isFirstAgain 164 = .ok (.iload 16, 2) := by decide +kernel
theorem dX7_isFirstAgain_166 : decode cX7_isFirstAgain 166 = .ok (.bipush 6, 2) := by decide +kernel
theorem dX7_isFirstAgain_168 : decode cX7_isFirstAgain 168 = .ok (.if_icmp .ge 42, 3) := by decide +kernel
theorem dX7_isFirstAgain_171 : decode cX7_isFirstAgain 171 = .ok (.iload 16, 2) := by decide +kernel
theorem dX7_isFirstAgain_173 : decode cX7_isFirstAgain 173 = .ok (.iconst 4, 1) := by decide +kernel
theorem dX7_isFirstAgain_174 : decode cX7_isFirstAgain 174 = .ok (.if_icmp .eq 26, 3) := by decide +kernel
theorem dX7_isFirstAgain_177 : decode cX7_isFirstAgain 177 = .ok (.aload_n 0, 1) := by decide +kernel
theorem dX7_isFirstAgain_178 : decode cX7_isFirstAgain 178 = .ok (.getfield 190, 3) := by decide +kernel
theorem dX7_isFirstAgain_181 : decode cX7_isFirstAgain 181 = .ok (.iload 16, 2) := by decide +kernel
theorem dX7_isFirstAgain_183 : decode cX7_isFirstAgain 183 = .ok (.irem, 1) := by decide +kernel
theorem dX7_isFirstAgain_184 : decode cX7_isFirstAgain 184 = .ok (.ifCond .ne 16, 3) := by decide +kernel
theorem dX7_isFirstAgain_187 : decode cX7_isFirstAgain 187 = .ok (.iload 15, 2) := by decide +kernel
theorem dX7_isFirstAgain_189 : decode cX7_isFirstAgain 189 = .ok (.iload 16, 2) := by decide +kernel
theorem dX7_isFirstAgain_191 : decode cX7_isFirstAgain 191 = .ok (.idiv, 1) := by decide +kernel
theorem dX7_isFirstAgain_192 : decode cX7_isFirstAgain 192 = .ok (.iload 16, 2) := by decide +kernel
theorem dX7_isFirstAgain_194 : decode cX7_isFirstAgain 194 = .ok (.iconst 1, 1) := by decide +kernel
theorem dX7_isFirstAgain_195 : decode cX7_isFirstAgain 195 = .ok (.isub, 1) := by decide +kernel
theorem dX7_isFirstAgain_196 : decode cX7_isFirstAgain 196 = .ok (.imul, 1) := by decide +kernel
theorem dX7_isFirstAgain_197 : decode cX7_isFirstAgain 197 = .ok (.goto 5, 3) := by decide +kernel
theorem dX7_isFirstAgain_200 : decode cX7_isFirstAgain 200 = .ok (.iload 15, 2) := by decide +kernel
theorem dX7_isFirstAgain_202 : decode cX7_isFirstAgain 202 = .ok (.istore 15, 2) := by decide +kernel
theorem dX7_isFirstAgain_204 : decode cX7_isFirstAgain 204 = .ok (.iinc 16 1, 3) := by decide +kernel
theorem dX7_isFirstAgain_207 : decode cX7_isFirstAgain 207 = .ok (.goto (-43), 3) := by decide +kernel
theorem dX7_isFirstAgain_210 : decode cX7_isFirstAgain 210 = .ok (.iload 15, 2) := by decide +kernel
theorem dX7_isFirstAgain_212 : decode cX7_isFirstAgain 212 = .ok (.iconst 1, 1) := by decide +kernel
theorem dX7_isFirstAgain_213 : decode cX7_isFirstAgain 213 = .ok (.isub, 1) := by decide +kernel
theorem dX7_isFirstAgain_214 : decode cX7_isFirstAgain 214 = .ok (.istore 16, 2) := by decide +kernel
theorem dX7_isFirstAgain_216 : decode cX7_isFirstAgain 216 = .ok (.iload 16, 2) := by decide +kernel
theorem dX7_isFirstAgain_218 : decode cX7_isFirstAgain 218 = .ok (.ifCond .le 51, 3) := by decide +kernel
theorem dX7_isFirstAgain_221 : decode cX7_isFirstAgain 221 = .ok (.iload 16, 2) := by decide +kernel
theorem dX7_isFirstAgain_223 : decode cX7_isFirstAgain 223 = .ok (.iconst 2, 1) := by decide +kernel
theorem dX7_isFirstAgain_224 : decode cX7_isFirstAgain 224 = .ok (.irem, 1) := by decide +kernel
theorem dX7_isFirstAgain_225 : decode cX7_isFirstAgain 225 = .ok (.iconst 1, 1) := by decide +kernel
theorem dX7_isFirstAgain_226 : decode cX7_isFirstAgain 226 = .ok (.if_icmp .ne 17, 3) := by decide +kernel
theorem dX7_isFirstAgain_229 : decode cX7_isFirstAgain 229 = .ok (.lload 11, 2) := by decide +kernel
theorem dX7_isFirstAgain_231 : decode cX7_isFirstAgain 231 = .ok (.lload 13, 2) := by decide +kernel
theorem dX7_isFirstAgain_233 : decode cX7_isFirstAgain 233 = .ok (.lmul, 1) := by decide +kernel
theorem dX7_isFirstAgain_234 : decode cX7_isFirstAgain 234 = .ok (.aload_n 0, 1) := by decide +kernel
theorem dX7_isFirstAgain_235 : decode cX7_isFirstAgain 235 = .ok (.getfield 190, 3) := by decide +kernel
theorem dX7_isFirstAgain_238 : decode cX7_isFirstAgain 238 = .ok (.i2l, 1) := by decide +kernel
theorem dX7_isFirstAgain_239 : decode cX7_isFirstAgain 239 = .ok (.lrem, 1) := by decide +kernel
theorem dX7_isFirstAgain_240 : decode cX7_isFirstAgain 240 = .ok (.goto 5, 3) := by decide +kernel
theorem dX7_isFirstAgain_243 : decode cX7_isFirstAgain 243 = .ok (.lload 11, 2) := by decide +kernel
theorem dX7_isFirstAgain_245 : decode cX7_isFirstAgain 245 = .ok (.lstore 11, 2) := by decide +kernel
theorem dX7_isFirstAgain_247 : decode cX7_isFirstAgain 247 = .ok (.lload 13, 2) := by decide +kernel
theorem dX7_isFirstAgain_249 : decode cX7_isFirstAgain 249 = .ok (.lload 13, 2) := by decide +kernel
theorem dX7_isFirstAgain_251 : decode cX7_isFirstAgain 251 = .ok (.lmul, 1) := by decide +kernel
theorem dX7_isFirstAgain_252 : decode cX7_isFirstAgain 252 = .ok (.aload_n 0, 1) := by decide +kernel
theorem dX7_isFirstAgain_253 : decode cX7_isFirstAgain 253 = .ok (.getfield 190, 3) := by decide +kernel
theorem dX7_isFirstAgain_256 : decode cX7_isFirstAgain 256 = .ok (.i2l, 1) := by decide +kernel
theorem dX7_isFirstAgain_257 : decode cX7_isFirstAgain 257 = .ok (.lrem, 1) := by decide +kernel
theorem dX7_isFirstAgain_258 : decode cX7_isFirstAgain 258 = .ok (.lstore 13, 2) := by decide +kernel
theorem dX7_isFirstAgain_260 : decode cX7_isFirstAgain 260 = .ok (.iload 16, 2) := by decide +kernel
theorem dX7_isFirstAgain_262 : decode cX7_isFirstAgain 262 = .ok (.iconst 2, 1) := by decide +kernel
theorem dX7_isFirstAgain_263 : decode cX7_isFirstAgain 263 = .ok (.idiv, 1) := by decide +kernel
theorem dX7_isFirstAgain_264 : decode cX7_isFirstAgain 264 = .ok (.istore 16, 2) := by decide +kernel
theorem dX7_isFirstAgain_266 : decode cX7_isFirstAgain 266 = .ok (.goto (-50), 3) := by decide +kernel
theorem dX7_isFirstAgain_269 : decode cX7_isFirstAgain 269 = .ok (.aload_n 0, 1) := by decide +kernel
theorem dX7_isFirstAgain_270 : decode cX7_isFirstAgain 270 = .ok (.getfield 190, 3) := by decide +kernel
theorem dX7_isFirstAgain_273 : decode cX7_isFirstAgain 273 = .ok (.iconst 1, 1) := by decide +kernel
theorem dX7_isFirstAgain_274 : decode cX7_isFirstAgain 274 = .ok (.if_icmp .ne 7, 3) := by decide +kernel
theorem dX7_isFirstAgain_277 : decode cX7_isFirstAgain 277 = .ok (.lconst 0, 1) := by decide +kernel
theorem dX7_isFirstAgain_278 : decode cX7_isFirstAgain 278 = .ok (.goto 15, 3) := by decide +kernel
theorem dX7_isFirstAgain_281 : decode cX7_isFirstAgain 281 = .ok (.iload 8, 2) := by decide +kernel
theorem dX7_isFirstAgain_283 : decode cX7_isFirstAgain 283 = .ok (.i2l, 1) := by decide +kernel
theorem dX7_isFirstAgain_284 : decode cX7_isFirstAgain 284 = .ok (.lload 11, 2) := by decide +kernel
theorem dX7_isFirstAgain_286 : decode cX7_isFirstAgain 286 = .ok (.lmul, 1) := by decide +kernel
theorem dX7_isFirstAgain_287 : decode cX7_isFirstAgain 287 = .ok (.aload_n 0, 1) := by decide +kernel
theorem dX7_isFirstAgain_288 : decode cX7_isFirstAgain 288 = .ok (.getfield 190, 3) := by decide +kernel
theorem dX7_isFirstAgain_291 : decode cX7_isFirstAgain 291 = .ok (.i2l, 1) := by decide +kernel
theorem dX7_isFirstAgain_292 : decode cX7_isFirstAgain 292 = .ok (.lrem, 1) := by decide +kernel
theorem dX7_isFirstAgain_293 : decode cX7_isFirstAgain 293 = .ok (.lstore 9, 2) := by decide +kernel
theorem dX7_isFirstAgain_295 : decode cX7_isFirstAgain 295 = .ok (.aload_n 0, 1) := by decide +kernel
theorem dX7_isFirstAgain_296 : decode cX7_isFirstAgain 296 = .ok (.iload_n 3, 1) := by decide +kernel
theorem dX7_isFirstAgain_297 : decode cX7_isFirstAgain 297 = .ok (.lload 9, 2) := by decide +kernel
theorem dX7_isFirstAgain_299 : decode cX7_isFirstAgain 299 = .ok (.l2i, 1) := by decide +kernel
theorem dX7_isFirstAgain_300 : decode cX7_isFirstAgain 300 = .ok (.iload_n 3, 1) := by decide +kernel
theorem dX7_isFirstAgain_301 : decode cX7_isFirstAgain 301 = .ok (.aload_n 0, 1) := by decide +kernel
theorem dX7_isFirstAgain_302 : decode cX7_isFirstAgain 302 = .ok (.getfield 190, 3) := by decide +kernel
theorem dX7_isFirstAgain_305 : decode cX7_isFirstAgain 305 = .ok (.irem, 1) := by decide +kernel
theorem dX7_isFirstAgain_306 : decode cX7_isFirstAgain 306 = .ok (.isub, 1) := by decide +kernel
theorem dX7_isFirstAgain_307 : decode cX7_isFirstAgain 307 = .ok (.aload_n 0, 1) := by decide +kernel
theorem dX7_isFirstAgain_308 : decode cX7_isFirstAgain 308 = .ok (.getfield 190, 3) := by decide +kernel
theorem dX7_isFirstAgain_311 : decode cX7_isFirstAgain 311 = .ok (.invokestatic 146, 3) := by decide +kernel
theorem dX7_isFirstAgain_314 : decode cX7_isFirstAgain 314 = .ok (.iadd, 1) := by decide +kernel
theorem dX7_isFirstAgain_315 : decode cX7_isFirstAgain 315 = .ok (.putfield 193, 3) := by decide +kernel
theorem dX7_isFirstAgain_318 : decode cX7_isFirstAgain 318 = .ok (.iconst 1, 1) := by decide +kernel
theorem dX7_isFirstAgain_319 : decode cX7_isFirstAgain 319 = .ok (.ireturn, 1) := by decide +kernel
set_option maxRecDepth 20000 in
theorem ggX7_again_X7_in : GoodIn wsX7_again wsX7_in := goodIn_r _ [7] (by decide +kernel) (by decide +kernel)
set_option maxRecDepth 20000 in
theorem gX7_again_X7_in : GoodIn wsX7_again (va_wsS RX7 41 yX7_in wsX7_in) := goodIn_app (goodIn_of _ (by decide +kernel)) ggX7_again_X7_in
set_option maxRecDepth 20000 in
theorem ggX7_again_X7_bits : GoodIn wsX7_again wsX7_bits := goodIn_r _ [10] (by decide +kernel) (by decide +kernel)
set_option maxRecDepth 20000 in
theorem gX7_again_X7_bits : GoodIn wsX7_again (va_wsS RX7 173 yX7_bits wsX7_bits) := goodIn_app (goodIn_of _ (by decide +kernel)) ggX7_again_X7_bits
set_option maxRecDepth 20000 in
theorem ggX7_again_X7_has : GoodIn wsX7_again wsX7_has := goodIn_r _ [13] (by decide +kernel) (by decide +kernel)
set_option maxRecDepth 20000 in
theorem gX7_again_X7_has : GoodIn wsX7_again (va_wsS RX7 49 yX7_has wsX7_has) := goodIn_app (goodIn_of _ (by decide +kernel)) ggX7_again_X7_has
set_option maxRecDepth 20000 in
theorem ggX7_again_X7_isExact : GoodIn wsX7_again wsX7_isExact := goodIn_r _ [17, 2, 18, 19, 20, 6, 21, 22, 4, 5, 7, 11, 12, 13, 44, 45, 46, 47, 48, 49, 50, 51, 52, 53, 54, 55, 56, 57, 58, 59, 60, 61, 62, 63, 64, 65, 66, 67, 68, 69] (by decide +kernel) (by decide +kernel)
set_option maxRecDepth 20000 in
theorem gX7_again_X7_isExact : GoodIn wsX7_again (wsV RX7 176 RX7 yX7_isExact wsX7_isExact) := goodIn_app (goodIn_of _ (by decide +kernel)) ggX7_again_X7_isExact
set_option maxRecDepth 20000 in
theorem ggX7_again_X7_isFirstAgain : GoodIn wsX7_again wsX7_isFirstAgain := goodIn_r _ [26, 2, 27, 28, 3, 29, 30, 31, 6, 32, 33, 34, 35, 36, 37, 38, 44, 45, 46, 47, 48, 49, 50, 51, 52, 53, 54, 55, 56, 57, 58, 59, 60, 61, 62, 63, 64, 65, 66, 67, 68, 69] (by decide +kernel) (by decide +kernel)
set_option maxRecDepth 20000 in
theorem gX7_again_X7_isFirstAgain : GoodIn wsX7_again (wsV RX7 199 RX7 yX7_isFirstAgain wsX7_isFirstAgain) := goodIn_app (goodIn_of _ (by decide +kernel)) ggX7_again_X7_isFirstAgain
set_option maxRecDepth 20000 in
theorem ggX7_again_X7_isAgain : GoodIn wsX7_again wsX7_isAgain := goodIn_r _ [42, 2, 27, 28, 3, 43, 29, 30, 31, 6, 32, 33, 34, 35, 36, 37, 38, 44, 45, 46, 47, 48, 49, 50, 51, 52, 53, 54, 55, 56, 57, 58, 59, 60, 61, 62, 63, 64, 65, 66, 67, 68, 69] (by decide +kernel) (by decide +kernel)
set_option maxRecDepth 20000 in
theorem gX7_again_X7_isAgain : GoodIn wsX7_again (wsV RX7 202 RX7 yX7_isAgain wsX7_isAgain) := goodIn_app (goodIn_of _ (by decide +kernel)) ggX7_again_X7_isAgain
theorem dX7_again_0 : decode cX7_again 0 = .ok (.iload_n 1, 1) := by decide +kernel
theorem dX7_again_1 : decode cX7_again 1 = .ok (.iconst 0, 1) := by decide +kernel
theorem dX7_again_2 : decode cX7_again 2 = .ok (.sipush 255, 3) := by decide +kernel
theorem dX7_again_5 : decode cX7_again 5 = .ok (.invokestatic 41, 3) := by decide +kernel
theorem dX7_again_8 : decode cX7_again 8 = .ok (.ifCond .eq 21, 3) := by decide +kernel
theorem dX7_again_11 : decode cX7_again 11 = .ok (.iload_n 1, 1) := by decide +kernel
theorem dX7_again_12 : decode cX7_again 12 = .ok (.invokestatic 173, 3) := by decide +kernel
theorem dX7_again_15 : decode cX7_again 15 = .ok (.iconst 2, 1) := by decide +kernel
theorem dX7_again_16 : decode cX7_again 16 = .ok (.if_icmp .lt 13, 3) := by decide +kernel
theorem dX7_again_19 : decode cX7_again 19 = .ok (.iload_n 2, 1) := by decide +kernel
theorem dX7_again_20 : decode cX7_again 20 = .ok (.iconst 0, 1) := by decide +kernel
theorem dX7_again_21 : decode cX7_again 21 = .ok (.ldc 198, 2) := by decide +kernel
theorem dX7_again_23 : decode cX7_again 23 = .ok (.invokestatic 41, 3) := by decide +kernel
theorem dX7_again_26 : decode cX7_again 26 = .ok (.ifCond .ne 6, 3) := by decide +kernel
theorem dX7_again_29 : decode cX7_again 29 = .ok (.bipush (-3), 2) := by decide +kernel
theorem dX7_again_31 : decode cX7_again 31 = .ok (.ireturn, 1) := by decide +kernel
theorem dX7_again_32 : decode cX7_again 32 = .ok (.iconst (-1), 1) := by decide +kernel
theorem dX7_again_33 : decode cX7_again 33 = .ok (.istore_n 3, 1) := by decide +kernel
theorem dX7_again_34 : decode cX7_again 34 = .ok (.iconst (-1), 1) := by decide +kernel
theorem dX7_again_35 : decode cX7_again 35 = .ok (.istore 4, 2) := by decide +kernel
theorem dX7_again_37 : decode cX7_again 37 = .ok (.bipush 7, 2) := by decide +kernel
theorem dX7_again_39 : decode cX7_again 39 = .ok (.istore 5, 2) := by decide +kernel
theorem dX7_again_41 : decode cX7_again 41 = .ok (.iload 5, 2) := by decide +kernel
theorem dX7_again_43 : decode cX7_again 43 = .ok (.ifCond .lt 49, 3) := by decide +kernel
theorem dX7_again_46 : decode cX7_again 46 = .ok (.iload_n 1, 1) := by decide +kernel
theorem dX7_again_47 : decode cX7_again 47 = .ok (.iload 5, 2) := by decide +kernel
theorem dX7_again_49 : decode cX7_again 49 = .ok (.invokestatic 49, 3) := by decide +kernel
theorem dX7_again_52 : decode cX7_again 52 = .ok (.ifCond .eq 34, 3) := by decide +kernel
theorem dX7_again_55 : decode cX7_again 55 = .ok (.aload_n 0, 1) := by decide +kernel
theorem dX7_again_56 : decode cX7_again 56 = .ok (.iload 5, 2) := by decide +kernel
theorem dX7_again_58 : decode cX7_again 58 = .ok (.invokevirtual 176, 3) := by decide +kernel
theorem dX7_again_61 : decode cX7_again 61 = .ok (.ifCond .eq 16, 3) := by decide +kernel
theorem dX7_again_64 : decode cX7_again 64 = .ok (.aload_n 0, 1) := by decide +kernel
theorem dX7_again_65 : decode cX7_again 65 = .ok (.getfield 7, 3) := by decide +kernel
theorem dX7_again_68 : decode cX7_again 68 = .ok (.bipush 6, 2) := by decide +kernel
theorem dX7_again_70 : decode cX7_again 70 = .ok (.iload 5, 2) := by decide +kernel
theorem dX7_again_72 : decode cX7_again 72 = .ok (.imul, 1) := by decide +kernel
theorem dX7_again_73 : decode cX7_again 73 = .ok (.iaload, 1) := by decide +kernel
theorem dX7_again_74 : decode cX7_again 74 = .ok (.ifCond .eq 6, 3) := by decide +kernel
theorem dX7_again_77 : decode cX7_again 77 = .ok (.bipush (-3), 2) := by decide +kernel
theorem dX7_again_79 : decode cX7_again 79 = .ok (.ireturn, 1) := by decide +kernel
theorem dX7_again_80 : decode cX7_again 80 = .ok (.iload_n 3, 1) := by decide +kernel
theorem dX7_again_81 : decode cX7_again 81 = .ok (.istore 4, 2) := by decide +kernel
theorem dX7_again_83 : decode cX7_again 83 = .ok (.iload 5, 2) := by decide +kernel
theorem dX7_again_85 : decode cX7_again 85 = .ok (.istore_n 3, 1) := by decide +kernel
theorem dX7_again_86 : decode cX7_again 86 = .ok (.iinc 5 (-1), 3) := by decide +kernel
theorem dX7_again_89 : decode cX7_again 89 = .ok (.goto (-48), 3) := by decide +kernel
theorem dX7_again_92 : decode cX7_again 92 = .ok (.aload_n 0, 1) := by decide +kernel
theorem dX7_again_93 : decode cX7_again 93 = .ok (.iload_n 3, 1) := by decide +kernel
theorem dX7_again_94 : decode cX7_again 94 = .ok (.iload 4, 2) := by decide +kernel
theorem dX7_again_96 : decode cX7_again 96 = .ok (.iload_n 2, 1) := by decide +kernel
theorem dX7_again_97 : decode cX7_again 97 = .ok (.invokevirtual 199, 3) := by decide +kernel
theorem dX7_again_100 : decode cX7_again 100 = .ok (.ifCond .ne 5, 3) := by decide +kernel
theorem dX7_again_103 : decode cX7_again 103 = .ok (.iconst (-1), 1) := by decide +kernel
theorem dX7_again_104 : decode cX7_again 104 = .ok (.ireturn, 1) := by decide +kernel
theorem dX7_again_105 : decode cX7_again 105 = .ok (.iload 4, 2) := by decide +kernel
theorem dX7_again_107 : decode cX7_again 107 = .ok (.iconst 1, 1) := by decide +kernel
theorem dX7_again_108 : decode cX7_again 108 = .ok (.iadd, 1) := by decide +kernel
theorem dX7_again_109 : decode cX7_again 109 = .ok (.istore 5, 2) := by decide +kernel
theorem dX7_again_111 : decode cX7_again 111 = .ok (.iload 5, 2) := by decide +kernel
theorem dX7_again_113 : decode cX7_again 113 = .ok (.bipush 8, 2) := by decide +kernel
theorem dX7_again_115 : decode cX7_again 115 = .ok (.if_icmp .ge 30, 3) := by decide +kernel
theorem dX7_again_118 : decode cX7_again 118 = .ok (.iload_n 1, 1) := by decide +kernel
theorem dX7_again_119 : decode cX7_again 119 = .ok (.iload 5, 2) := by decide +kernel
theorem dX7_again_121 : decode cX7_again 121 = .ok (.invokestatic 49, 3) := by decide +kernel
theorem dX7_again_124 : decode cX7_again 124 = .ok (.ifCond .eq 15, 3) := by decide +kernel
theorem dX7_again_127 : decode cX7_again 127 = .ok (.aload_n 0, 1) := by decide +kernel
theorem dX7_again_128 : decode cX7_again 128 = .ok (.iload_n 3, 1) := by decide +kernel
theorem dX7_again_129 : decode cX7_again 129 = .ok (.iload 5, 2) := by decide +kernel
theorem dX7_again_131 : decode cX7_again 131 = .ok (.invokevirtual 202, 3) := by decide +kernel
theorem dX7_again_134 : decode cX7_again 134 = .ok (.ifCond .ne 5, 3) := by decide +kernel
theorem dX7_again_137 : decode cX7_again 137 = .ok (.iconst (-1), 1) := by decide +kernel
theorem dX7_again_138 : decode cX7_again 138 = .ok (.ireturn, 1) := by decide +kernel
theorem dX7_again_139 : decode cX7_again 139 = .ok (.iinc 5 1, 3) := by decide +kernel
theorem dX7_again_142 : decode cX7_again 142 = .ok (.goto (-31), 3) := by decide +kernel
theorem dX7_again_145 : decode cX7_again 145 = .ok (.aload_n 0, 1) := by decide +kernel
theorem dX7_again_146 : decode cX7_again 146 = .ok (.getfield 193, 3) := by decide +kernel
theorem dX7_again_149 : decode cX7_again 149 = .ok (.ireturn, 1) := by decide +kernel
set_option maxRecDepth 20000 in
theorem ggX7_stopped_X7_isClock : GoodIn wsX7_stopped wsX7_isClock := goodIn_r _ [6, 7, 8, 9, 5, 10, 11, 12, 13, 31, 32, 33, 34, 35, 36, 37, 38, 39, 40, 41, 42, 43, 44, 45, 46, 47, 48, 49, 50, 51, 52, 53, 54, 55, 56] (by decide +kernel) (by decide +kernel)
set_option maxRecDepth 20000 in
theorem gX7_stopped_X7_isClock : GoodIn wsX7_stopped (wsV RX7 143 RX7 yX7_isClock wsX7_isClock) := goodIn_app (goodIn_of _ (by decide +kernel)) ggX7_stopped_X7_isClock
set_option maxRecDepth 20000 in
theorem ggX7_stopped_X7_in : GoodIn wsX7_stopped wsX7_in := goodIn_r _ [10] (by decide +kernel) (by decide +kernel)
set_option maxRecDepth 20000 in
theorem gX7_stopped_X7_in : GoodIn wsX7_stopped (va_wsS RX7 41 yX7_in wsX7_in) := goodIn_app (goodIn_of _ (by decide +kernel)) ggX7_stopped_X7_in
set_option maxRecDepth 20000 in
theorem ggX7_stopped_X7_canShow : GoodIn wsX7_stopped wsX7_canShow := goodIn_r _ [17, 1, 18, 19, 20, 5, 21, 22, 23, 24, 25, 26, 27, 28, 29, 30, 31, 32, 33, 34, 35, 36, 37, 38, 39, 40, 41, 42, 43, 44, 45, 46, 47, 48, 49, 50, 51, 52, 53, 54, 55, 56] (by decide +kernel) (by decide +kernel)
set_option maxRecDepth 20000 in
theorem gX7_stopped_X7_canShow : GoodIn wsX7_stopped (wsV RX7 163 RX7 yX7_canShow wsX7_canShow) := goodIn_app (goodIn_of _ (by decide +kernel)) ggX7_stopped_X7_canShow
theorem dX7_stopped_0 : decode cX7_stopped 0 = .ok (.aload_n 0, 1) := by decide +kernel
theorem dX7_stopped_1 : decode cX7_stopped 1 = .ok (.iload_n 1, 1) := by decide +kernel
theorem dX7_stopped_2 : decode cX7_stopped 2 = .ok (.invokevirtual 143, 3) := by decide +kernel
theorem dX7_stopped_5 : decode cX7_stopped 5 = .ok (.ifCond .eq 11, 3) := by decide +kernel
theorem dX7_stopped_8 : decode cX7_stopped 8 = .ok (.aload_n 0, 1) := by decide +kernel
theorem dX7_stopped_9 : decode cX7_stopped 9 = .ok (.iload_n 2, 1) := by decide +kernel
theorem dX7_stopped_10 : decode cX7_stopped 10 = .ok (.invokevirtual 143, 3) := by decide +kernel
theorem dX7_stopped_13 : decode cX7_stopped 13 = .ok (.ifCond .ne 6, 3) := by decide +kernel
theorem dX7_stopped_16 : decode cX7_stopped 16 = .ok (.bipush (-2), 2) := by decide +kernel
theorem dX7_stopped_18 : decode cX7_stopped 18 = .ok (.ireturn, 1) := by decide +kernel
theorem dX7_stopped_19 : decode cX7_stopped 19 = .ok (.iload_n 3, 1) := by decide +kernel
theorem dX7_stopped_20 : decode cX7_stopped 20 = .ok (.iconst 0, 1) := by decide +kernel
theorem dX7_stopped_21 : decode cX7_stopped 21 = .ok (.iconst 2, 1) := by decide +kernel
theorem dX7_stopped_22 : decode cX7_stopped 22 = .ok (.invokestatic 41, 3) := by decide +kernel
theorem dX7_stopped_25 : decode cX7_stopped 25 = .ok (.ifCond .ne 6, 3) := by decide +kernel
theorem dX7_stopped_28 : decode cX7_stopped 28 = .ok (.bipush (-3), 2) := by decide +kernel
theorem dX7_stopped_30 : decode cX7_stopped 30 = .ok (.ireturn, 1) := by decide +kernel
theorem dX7_stopped_31 : decode cX7_stopped 31 = .ok (.aload_n 0, 1) := by decide +kernel
theorem dX7_stopped_32 : decode cX7_stopped 32 = .ok (.getfield 7, 3) := by decide +kernel
theorem dX7_stopped_35 : decode cX7_stopped 35 = .ok (.bipush 6, 2) := by decide +kernel
theorem dX7_stopped_37 : decode cX7_stopped 37 = .ok (.iload_n 1, 1) := by decide +kernel
theorem dX7_stopped_38 : decode cX7_stopped 38 = .ok (.imul, 1) := by decide +kernel
theorem dX7_stopped_39 : decode cX7_stopped 39 = .ok (.iaload, 1) := by decide +kernel
theorem dX7_stopped_40 : decode cX7_stopped 40 = .ok (.iconst 2, 1) := by decide +kernel
theorem dX7_stopped_41 : decode cX7_stopped 41 = .ok (.if_icmp .ne 16, 3) := by decide +kernel
theorem dX7_stopped_44 : decode cX7_stopped 44 = .ok (.aload_n 0, 1) := by decide +kernel
theorem dX7_stopped_45 : decode cX7_stopped 45 = .ok (.getfield 7, 3) := by decide +kernel
theorem dX7_stopped_48 : decode cX7_stopped 48 = .ok (.bipush 6, 2) := by decide +kernel
theorem dX7_stopped_50 : decode cX7_stopped 50 = .ok (.iload_n 2, 1) := by decide +kernel
theorem dX7_stopped_51 : decode cX7_stopped 51 = .ok (.imul, 1) := by decide +kernel
theorem dX7_stopped_52 : decode cX7_stopped 52 = .ok (.iaload, 1) := by decide +kernel
theorem dX7_stopped_53 : decode cX7_stopped 53 = .ok (.iconst 2, 1) := by decide +kernel
theorem dX7_stopped_54 : decode cX7_stopped 54 = .ok (.if_icmp .ne 6, 3) := by decide +kernel
theorem dX7_stopped_57 : decode cX7_stopped 57 = .ok (.bipush (-4), 2) := by decide +kernel
theorem dX7_stopped_59 : decode cX7_stopped 59 = .ok (.ireturn, 1) := by decide +kernel
theorem dX7_stopped_60 : decode cX7_stopped 60 = .ok (.iconst 0, 1) := by decide +kernel
theorem dX7_stopped_61 : decode cX7_stopped 61 = .ok (.istore 4, 2) := by decide +kernel
theorem dX7_stopped_63 : decode cX7_stopped 63 = .ok (.iconst (-1), 1) := by decide +kernel
theorem dX7_stopped_64 : decode cX7_stopped 64 = .ok (.istore 5, 2) := by decide +kernel
theorem dX7_stopped_66 : decode cX7_stopped 66 = .ok (.iconst (-1), 1) := by decide +kernel
theorem dX7_stopped_67 : decode cX7_stopped 67 = .ok (.istore 6, 2) := by decide +kernel
theorem dX7_stopped_69 : decode cX7_stopped 69 = .ok (.iconst 0, 1) := by decide +kernel
theorem dX7_stopped_70 : decode cX7_stopped 70 = .ok (.istore 7, 2) := by decide +kernel
theorem dX7_stopped_72 : decode cX7_stopped 72 = .ok (.iload 7, 2) := by decide +kernel
theorem dX7_stopped_74 : decode cX7_stopped 74 = .ok (.sipush 4320, 3) := by decide +kernel
theorem dX7_stopped_77 : decode cX7_stopped 77 = .ok (.if_icmp .ge 51, 3) := by decide +kernel
theorem dX7_stopped_80 : decode cX7_stopped 80 = .ok (.aload_n 0, 1) := by decide +kernel
theorem dX7_stopped_81 : decode cX7_stopped 81 = .ok (.iload_n 2, 1) := by decide +kernel
theorem dX7_stopped_82 : decode cX7_stopped 82 = .ok (.iload 7, 2) := by decide +kernel
theorem dX7_stopped_84 : decode cX7_stopped 84 = .ok (.aload_n 0, 1) := by decide +kernel
theorem dX7_stopped_85 : decode cX7_stopped 85 = .ok (.getfield 7, 3) := by decide +kernel
theorem dX7_stopped_88 : decode cX7_stopped 88 = .ok (.bipush 6, 2) := by decide +kernel
theorem dX7_stopped_90 : decode cX7_stopped 90 = .ok (.iload_n 1, 1) := by decide +kernel
theorem dX7_stopped_91 : decode cX7_stopped 91 = .ok (.imul, 1) := by decide +kernel
theorem dX7_stopped_92 : decode cX7_stopped 92 = .ok (.iconst 2, 1) := by decide +kernel
theorem dX7_stopped_93 : decode cX7_stopped 93 = .ok (.iadd, 1) := by decide +kernel
theorem dX7_stopped_94 : decode cX7_stopped 94 = .ok (.iaload, 1) := by decide +kernel
theorem dX7_stopped_95 : decode cX7_stopped 95 = .ok (.invokevirtual 163, 3) := by decide +kernel
theorem dX7_stopped_98 : decode cX7_stopped 98 = .ok (.ifCond .eq 24, 3) := by decide +kernel
theorem dX7_stopped_101 : decode cX7_stopped 101 = .ok (.iload 4, 2) := by decide +kernel
theorem dX7_stopped_103 : decode cX7_stopped 103 = .ok (.ifCond .ne 8, 3) := by decide +kernel
theorem dX7_stopped_106 : decode cX7_stopped 106 = .ok (.iload 7, 2) := by decide +kernel
theorem dX7_stopped_108 : decode cX7_stopped 108 = .ok (.goto 5, 3) := by decide +kernel
theorem dX7_stopped_111 : decode cX7_stopped 111 = .ok (.iload 5, 2) := by decide +kernel
theorem dX7_stopped_113 : decode cX7_stopped 113 = .ok (.istore 5, 2) := by decide +kernel
theorem dX7_stopped_115 : decode cX7_stopped 115 = .ok (.iload 7, 2) := by decide +kernel
theorem dX7_stopped_117 : decode cX7_stopped 117 = .ok (.istore 6, 2) := by decide +kernel
theorem dX7_stopped_119 : decode cX7_stopped 119 = .ok (.iinc 4 1, 3) := by decide +kernel
theorem dX7_stopped_122 : decode cX7_stopped 122 = .ok (.iinc 7 1, 3) := by decide +kernel
theorem dX7_stopped_125 : decode cX7_stopped 125 = .ok (.goto (-53), 3) := by decide +kernel
theorem dX7_stopped_128 : decode cX7_stopped 128 = .ok (.iload_n 3, 1) := by decide +kernel
theorem dX7_stopped_129 : decode cX7_stopped 129 = .ok (.ifCond .ne 8, 3) := by decide +kernel
theorem dX7_stopped_132 : decode cX7_stopped 132 = .ok (.iload 4, 2) := by decide +kernel
theorem dX7_stopped_134 : decode cX7_stopped 134 = .ok (.goto 15, 3) := by decide +kernel
theorem dX7_stopped_137 : decode cX7_stopped 137 = .ok (.iload_n 3, 1) := by decide +kernel
theorem dX7_stopped_138 : decode cX7_stopped 138 = .ok (.iconst 1, 1) := by decide +kernel
theorem dX7_stopped_139 : decode cX7_stopped 139 = .ok (.if_icmp .ne 8, 3) := by decide +kernel
theorem dX7_stopped_142 : decode cX7_stopped 142 = .ok (.iload 5, 2) := by decide +kernel
theorem dX7_stopped_144 : decode cX7_stopped 144 = .ok (.goto 5, 3) := by decide +kernel
theorem dX7_stopped_147 : decode cX7_stopped 147 = .ok (.iload 6, 2) := by decide +kernel
theorem dX7_stopped_149 : decode cX7_stopped 149 = .ok (.ireturn, 1) := by decide +kernel
set_option maxRecDepth 20000 in
theorem ggX7_setBy_X7_isClock : GoodIn wsX7_setBy wsX7_isClock := goodIn_r _ [9, 10, 11, 12, 8, 13, 14, 15, 16, 37, 38, 39, 40, 41, 42, 43, 44, 45, 46, 47, 48, 49, 50, 51, 52, 53, 54, 55, 56, 57, 58, 59, 60, 61, 62] (by decide +kernel) (by decide +kernel)
set_option maxRecDepth 20000 in
theorem gX7_setBy_X7_isClock : GoodIn wsX7_setBy (wsV RX7 143 RX7 yX7_isClock wsX7_isClock) := goodIn_app (goodIn_of _ (by decide +kernel)) ggX7_setBy_X7_isClock
set_option maxRecDepth 20000 in
theorem ggX7_setBy_X7_isMinute : GoodIn wsX7_setBy wsX7_isMinute := goodIn_r _ [19, 11, 12, 8, 13] (by decide +kernel) (by decide +kernel)
set_option maxRecDepth 20000 in
theorem gX7_setBy_X7_isMinute : GoodIn wsX7_setBy (va_wsS RX7 150 yX7_isMinute wsX7_isMinute) := goodIn_app (goodIn_of _ (by decide +kernel)) ggX7_setBy_X7_isMinute
set_option maxRecDepth 20000 in
theorem ggX7_setBy_X7_in : GoodIn wsX7_setBy wsX7_in := goodIn_r _ [13] (by decide +kernel) (by decide +kernel)
set_option maxRecDepth 20000 in
theorem gX7_setBy_X7_in : GoodIn wsX7_setBy (va_wsS RX7 41 yX7_in wsX7_in) := goodIn_app (goodIn_of _ (by decide +kernel)) ggX7_setBy_X7_in
set_option maxRecDepth 20000 in
theorem ggX7_setBy_X7_has : GoodIn wsX7_setBy wsX7_has := goodIn_r _ [16] (by decide +kernel) (by decide +kernel)
set_option maxRecDepth 20000 in
theorem gX7_setBy_X7_has : GoodIn wsX7_setBy (va_wsS RX7 49 yX7_has wsX7_has) := goodIn_app (goodIn_of _ (by decide +kernel)) ggX7_setBy_X7_has
set_option maxRecDepth 20000 in
theorem ggX7_setBy_X7_isExact : GoodIn wsX7_setBy wsX7_isExact := goodIn_r _ [23, 1, 5, 6, 7, 8, 9, 10, 11, 12, 13, 14, 15, 16, 37, 38, 39, 40, 41, 42, 43, 44, 45, 46, 47, 48, 49, 50, 51, 52, 53, 54, 55, 56, 57, 58, 59, 60, 61, 62] (by decide +kernel) (by decide +kernel)
set_option maxRecDepth 20000 in
theorem gX7_setBy_X7_isExact : GoodIn wsX7_setBy (wsV RX7 176 RX7 yX7_isExact wsX7_isExact) := goodIn_app (goodIn_of _ (by decide +kernel)) ggX7_setBy_X7_isExact
set_option maxRecDepth 20000 in
theorem ggX7_setBy_X7_hand : GoodIn wsX7_setBy wsX7_hand := goodIn_r _ [27, 1, 37, 38, 39, 40, 41, 42, 43, 44, 45, 46, 47, 48, 49, 50, 51, 52, 53, 54, 55, 56, 57, 58, 59, 60, 61, 62] (by decide +kernel) (by decide +kernel)
set_option maxRecDepth 20000 in
theorem gX7_setBy_X7_hand : GoodIn wsX7_setBy (wsV RX7 153 RX7 yX7_hand wsX7_hand) := goodIn_app (goodIn_of _ (by decide +kernel)) ggX7_setBy_X7_hand
set_option maxRecDepth 20000 in
theorem ggX7_setBy_X7_rest : GoodIn wsX7_setBy wsX7_rest := goodIn_r _ [30] (by decide +kernel) (by decide +kernel)
set_option maxRecDepth 20000 in
theorem gX7_setBy_X7_rest : GoodIn wsX7_setBy (va_wsS RX7 146 yX7_rest wsX7_rest) := goodIn_app (goodIn_of _ (by decide +kernel)) ggX7_setBy_X7_rest
set_option maxRecDepth 20000 in
theorem ggX7_setBy_X7_isBetween : GoodIn wsX7_setBy wsX7_isBetween := goodIn_r _ [33, 34, 35, 8, 36, 28, 29, 30] (by decide +kernel) (by decide +kernel)
set_option maxRecDepth 20000 in
theorem gX7_setBy_X7_isBetween : GoodIn wsX7_setBy (va_wsS RX7 160 yX7_isBetween wsX7_isBetween) := goodIn_app (goodIn_of _ (by decide +kernel)) ggX7_setBy_X7_isBetween
theorem dX7_setBy_0 : decode cX7_setBy 0 = .ok (.aload_n 0, 1) := by decide +kernel
theorem dX7_setBy_1 : decode cX7_setBy 1 = .ok (.iload_n 1, 1) := by decide +kernel
theorem dX7_setBy_2 : decode cX7_setBy 2 = .ok (.invokevirtual 143, 3) := by decide +kernel
theorem dX7_setBy_5 : decode cX7_setBy 5 = .ok (.ifCond .eq 11, 3) := by decide +kernel
theorem dX7_setBy_8 : decode cX7_setBy 8 = .ok (.aload_n 0, 1) := by decide +kernel
theorem dX7_setBy_9 : decode cX7_setBy 9 = .ok (.iload_n 2, 1) := by decide +kernel
theorem dX7_setBy_10 : decode cX7_setBy 10 = .ok (.invokevirtual 143, 3) := by decide +kernel
theorem dX7_setBy_13 : decode cX7_setBy 13 = .ok (.ifCond .ne 6, 3) := by decide +kernel
theorem dX7_setBy_16 : decode cX7_setBy 16 = .ok (.bipush (-2), 2) := by decide +kernel
theorem dX7_setBy_18 : decode cX7_setBy 18 = .ok (.ireturn, 1) := by decide +kernel
theorem dX7_setBy_19 : decode cX7_setBy 19 = .ok (.iload_n 1, 1) := by decide +kernel
theorem dX7_setBy_20 : decode cX7_setBy 20 = .ok (.iload_n 2, 1) := by decide +kernel
theorem dX7_setBy_21 : decode cX7_setBy 21 = .ok (.if_icmp .eq 20, 3) := by decide +kernel
theorem dX7_setBy_24 : decode cX7_setBy 24 = .ok (.iload_n 3, 1) := by decide +kernel
theorem dX7_setBy_25 : decode cX7_setBy 25 = .ok (.invokestatic 150, 3) := by decide +kernel
theorem dX7_setBy_28 : decode cX7_setBy 28 = .ok (.ifCond .eq 13, 3) := by decide +kernel
theorem dX7_setBy_31 : decode cX7_setBy 31 = .ok (.iload 4, 2) := by decide +kernel
theorem dX7_setBy_33 : decode cX7_setBy 33 = .ok (.iconst 0, 1) := by decide +kernel
theorem dX7_setBy_34 : decode cX7_setBy 34 = .ok (.iconst 1, 1) := by decide +kernel
theorem dX7_setBy_35 : decode cX7_setBy 35 = .ok (.invokestatic 41, 3) := by decide +kernel
theorem dX7_setBy_38 : decode cX7_setBy 38 = .ok (.ifCond .ne 6, 3) := by decide +kernel
theorem dX7_setBy_41 : decode cX7_setBy 41 = .ok (.bipush (-3), 2) := by decide +kernel
theorem dX7_setBy_43 : decode cX7_setBy 43 = .ok (.ireturn, 1) := by decide +kernel
theorem dX7_setBy_44 : decode cX7_setBy 44 = .ok (.aload_n 0, 1) := by decide +kernel
theorem dX7_setBy_45 : decode cX7_setBy 45 = .ok (.getfield 7, 3) := by decide +kernel
theorem dX7_setBy_48 : decode cX7_setBy 48 = .ok (.bipush 6, 2) := by decide +kernel
theorem dX7_setBy_50 : decode cX7_setBy 50 = .ok (.iload_n 1, 1) := by decide +kernel
theorem dX7_setBy_51 : decode cX7_setBy 51 = .ok (.imul, 1) := by decide +kernel
theorem dX7_setBy_52 : decode cX7_setBy 52 = .ok (.iaload, 1) := by decide +kernel
theorem dX7_setBy_53 : decode cX7_setBy 53 = .ok (.ifCond .ne 35, 3) := by decide +kernel
theorem dX7_setBy_56 : decode cX7_setBy 56 = .ok (.aload_n 0, 1) := by decide +kernel
theorem dX7_setBy_57 : decode cX7_setBy 57 = .ok (.getfield 136, 3) := by decide +kernel
theorem dX7_setBy_60 : decode cX7_setBy 60 = .ok (.iload_n 1, 1) := by decide +kernel
theorem dX7_setBy_61 : decode cX7_setBy 61 = .ok (.invokestatic 49, 3) := by decide +kernel
theorem dX7_setBy_64 : decode cX7_setBy 64 = .ok (.ifCond .eq 24, 3) := by decide +kernel
theorem dX7_setBy_67 : decode cX7_setBy 67 = .ok (.aload_n 0, 1) := by decide +kernel
theorem dX7_setBy_68 : decode cX7_setBy 68 = .ok (.getfield 7, 3) := by decide +kernel
theorem dX7_setBy_71 : decode cX7_setBy 71 = .ok (.bipush 6, 2) := by decide +kernel
theorem dX7_setBy_73 : decode cX7_setBy 73 = .ok (.iload_n 2, 1) := by decide +kernel
theorem dX7_setBy_74 : decode cX7_setBy 74 = .ok (.imul, 1) := by decide +kernel
theorem dX7_setBy_75 : decode cX7_setBy 75 = .ok (.iaload, 1) := by decide +kernel
theorem dX7_setBy_76 : decode cX7_setBy 76 = .ok (.iconst 2, 1) := by decide +kernel
theorem dX7_setBy_77 : decode cX7_setBy 77 = .ok (.if_icmp .eq 11, 3) := by decide +kernel
theorem dX7_setBy_80 : decode cX7_setBy 80 = .ok (.aload_n 0, 1) := by decide +kernel
theorem dX7_setBy_81 : decode cX7_setBy 81 = .ok (.iload_n 2, 1) := by decide +kernel
theorem dX7_setBy_82 : decode cX7_setBy 82 = .ok (.invokevirtual 176, 3) := by decide +kernel
theorem dX7_setBy_85 : decode cX7_setBy 85 = .ok (.ifCond .ne 6, 3) := by decide +kernel
theorem dX7_setBy_88 : decode cX7_setBy 88 = .ok (.bipush (-4), 2) := by decide +kernel
theorem dX7_setBy_90 : decode cX7_setBy 90 = .ok (.ireturn, 1) := by decide +kernel
theorem dX7_setBy_91 : decode cX7_setBy 91 = .ok (.iconst 0, 1) := by decide +kernel
theorem dX7_setBy_92 : decode cX7_setBy 92 = .ok (.istore 5, 2) := by decide +kernel
theorem dX7_setBy_94 : decode cX7_setBy 94 = .ok (.iconst (-1), 1) := by decide +kernel
theorem dX7_setBy_95 : decode cX7_setBy 95 = .ok (.istore 6, 2) := by decide +kernel
theorem dX7_setBy_97 : decode cX7_setBy 97 = .ok (.iconst 0, 1) := by decide +kernel
theorem dX7_setBy_98 : decode cX7_setBy 98 = .ok (.istore 7, 2) := by decide +kernel
theorem dX7_setBy_100 : decode cX7_setBy 100 = .ok (.iload 7, 2) := by decide +kernel
theorem dX7_setBy_102 : decode cX7_setBy 102 = .ok (.iload_n 3, 1) := by decide +kernel
theorem dX7_setBy_103 : decode cX7_setBy 103 = .ok (.if_icmp .gt 122, 3) := by decide +kernel
theorem dX7_setBy_106 : decode cX7_setBy 106 = .ok (.aload_n 0, 1) := by decide +kernel
theorem dX7_setBy_107 : decode cX7_setBy 107 = .ok (.iload_n 2, 1) := by decide +kernel
theorem dX7_setBy_108 : decode cX7_setBy 108 = .ok (.iload 7, 2) := by decide +kernel
theorem dX7_setBy_110 : decode cX7_setBy 110 = .ok (.aload_n 0, 1) := by decide +kernel
theorem dX7_setBy_111 : decode cX7_setBy 111 = .ok (.getfield 7, 3) := by decide +kernel
theorem dX7_setBy_114 : decode cX7_setBy 114 = .ok (.bipush 6, 2) := by decide +kernel
theorem dX7_setBy_116 : decode cX7_setBy 116 = .ok (.iload_n 2, 1) := by decide +kernel
theorem dX7_setBy_117 : decode cX7_setBy 117 = .ok (.imul, 1) := by decide +kernel
theorem dX7_setBy_118 : decode cX7_setBy 118 = .ok (.iconst 3, 1) := by decide +kernel
theorem dX7_setBy_119 : decode cX7_setBy 119 = .ok (.iadd, 1) := by decide +kernel
theorem dX7_setBy_120 : decode cX7_setBy 120 = .ok (.iaload, 1) := by decide +kernel
theorem dX7_setBy_121 : decode cX7_setBy 121 = .ok (.invokevirtual 153, 3) := by decide +kernel
theorem dX7_setBy_124 : decode cX7_setBy 124 = .ok (.ldc 182, 2) := by decide +kernel
theorem dX7_setBy_126 : decode cX7_setBy 126 = .ok (.invokestatic 146, 3) := by decide +kernel
theorem dX7_setBy_129 : decode cX7_setBy 129 = .ok (.istore 8, 2) := by decide +kernel
theorem dX7_setBy_131 : decode cX7_setBy 131 = .ok (.iload 8, 2) := by decide +kernel
theorem dX7_setBy_133 : decode cX7_setBy 133 = .ok (.ldc 205, 2) := by decide +kernel
theorem dX7_setBy_135 : decode cX7_setBy 135 = .ok (.irem, 1) := by decide +kernel
theorem dX7_setBy_136 : decode cX7_setBy 136 = .ok (.ifCond .ne 83, 3) := by decide +kernel
theorem dX7_setBy_139 : decode cX7_setBy 139 = .ok (.iload 8, 2) := by decide +kernel
theorem dX7_setBy_141 : decode cX7_setBy 141 = .ok (.iload_n 3, 1) := by decide +kernel
theorem dX7_setBy_142 : decode cX7_setBy 142 = .ok (.iload 7, 2) := by decide +kernel
theorem dX7_setBy_144 : decode cX7_setBy 144 = .ok (.isub, 1) := by decide +kernel
theorem dX7_setBy_145 : decode cX7_setBy 145 = .ok (.sipush 1440, 3) := by decide +kernel
theorem dX7_setBy_148 : decode cX7_setBy 148 = .ok (.aload_n 0, 1) := by decide +kernel
theorem dX7_setBy_149 : decode cX7_setBy 149 = .ok (.getfield 7, 3) := by decide +kernel
theorem dX7_setBy_152 : decode cX7_setBy 152 = .ok (.bipush 6, 2) := by decide +kernel
theorem dX7_setBy_154 : decode cX7_setBy 154 = .ok (.iload_n 1, 1) := by decide +kernel
theorem dX7_setBy_155 : decode cX7_setBy 155 = .ok (.imul, 1) := by decide +kernel
theorem dX7_setBy_156 : decode cX7_setBy 156 = .ok (.iconst 3, 1) := by decide +kernel
theorem dX7_setBy_157 : decode cX7_setBy 157 = .ok (.iadd, 1) := by decide +kernel
theorem dX7_setBy_158 : decode cX7_setBy 158 = .ok (.iaload, 1) := by decide +kernel
theorem dX7_setBy_159 : decode cX7_setBy 159 = .ok (.iadd, 1) := by decide +kernel
theorem dX7_setBy_160 : decode cX7_setBy 160 = .ok (.imul, 1) := by decide +kernel
theorem dX7_setBy_161 : decode cX7_setBy 161 = .ok (.iadd, 1) := by decide +kernel
theorem dX7_setBy_162 : decode cX7_setBy 162 = .ok (.iload 8, 2) := by decide +kernel
theorem dX7_setBy_164 : decode cX7_setBy 164 = .ok (.iload_n 3, 1) := by decide +kernel
theorem dX7_setBy_165 : decode cX7_setBy 165 = .ok (.iload 7, 2) := by decide +kernel
theorem dX7_setBy_167 : decode cX7_setBy 167 = .ok (.isub, 1) := by decide +kernel
theorem dX7_setBy_168 : decode cX7_setBy 168 = .ok (.sipush 1440, 3) := by decide +kernel
theorem dX7_setBy_171 : decode cX7_setBy 171 = .ok (.aload_n 0, 1) := by decide +kernel
theorem dX7_setBy_172 : decode cX7_setBy 172 = .ok (.getfield 7, 3) := by decide +kernel
theorem dX7_setBy_175 : decode cX7_setBy 175 = .ok (.bipush 6, 2) := by decide +kernel
theorem dX7_setBy_177 : decode cX7_setBy 177 = .ok (.iload_n 1, 1) := by decide +kernel
theorem dX7_setBy_178 : decode cX7_setBy 178 = .ok (.imul, 1) := by decide +kernel
theorem dX7_setBy_179 : decode cX7_setBy 179 = .ok (.iconst 4, 1) := by decide +kernel
theorem dX7_setBy_180 : decode cX7_setBy 180 = .ok (.iadd, 1) := by decide +kernel
theorem dX7_setBy_181 : decode cX7_setBy 181 = .ok (.iaload, 1) := by decide +kernel
theorem dX7_setBy_182 : decode cX7_setBy 182 = .ok (.iadd, 1) := by decide +kernel
theorem dX7_setBy_183 : decode cX7_setBy 183 = .ok (.imul, 1) := by decide +kernel
theorem dX7_setBy_184 : decode cX7_setBy 184 = .ok (.iadd, 1) := by decide +kernel
theorem dX7_setBy_185 : decode cX7_setBy 185 = .ok (.aload_n 0, 1) := by decide +kernel
theorem dX7_setBy_186 : decode cX7_setBy 186 = .ok (.getfield 7, 3) := by decide +kernel
theorem dX7_setBy_189 : decode cX7_setBy 189 = .ok (.bipush 6, 2) := by decide +kernel
theorem dX7_setBy_191 : decode cX7_setBy 191 = .ok (.iload_n 1, 1) := by decide +kernel
theorem dX7_setBy_192 : decode cX7_setBy 192 = .ok (.imul, 1) := by decide +kernel
theorem dX7_setBy_193 : decode cX7_setBy 193 = .ok (.iconst 5, 1) := by decide +kernel
theorem dX7_setBy_194 : decode cX7_setBy 194 = .ok (.iadd, 1) := by decide +kernel
theorem dX7_setBy_195 : decode cX7_setBy 195 = .ok (.iaload, 1) := by decide +kernel
theorem dX7_setBy_196 : decode cX7_setBy 196 = .ok (.invokestatic 160, 3) := by decide +kernel
theorem dX7_setBy_199 : decode cX7_setBy 199 = .ok (.ifCond .eq 20, 3) := by decide +kernel
theorem dX7_setBy_202 : decode cX7_setBy 202 = .ok (.iload 5, 2) := by decide +kernel
theorem dX7_setBy_204 : decode cX7_setBy 204 = .ok (.ifCond .ne 8, 3) := by decide +kernel
theorem dX7_setBy_207 : decode cX7_setBy 207 = .ok (.iload 7, 2) := by decide +kernel
theorem dX7_setBy_209 : decode cX7_setBy 209 = .ok (.goto 5, 3) := by decide +kernel
theorem dX7_setBy_212 : decode cX7_setBy 212 = .ok (.iload 6, 2) := by decide +kernel
theorem dX7_setBy_214 : decode cX7_setBy 214 = .ok (.istore 6, 2) := by decide +kernel
theorem dX7_setBy_216 : decode cX7_setBy 216 = .ok (.iinc 5 1, 3) := by decide +kernel
theorem dX7_setBy_219 : decode cX7_setBy 219 = .ok (.iinc 7 1, 3) := by decide +kernel
theorem dX7_setBy_222 : decode cX7_setBy 222 = .ok (.goto (-122), 3) := by decide +kernel
theorem dX7_setBy_225 : decode cX7_setBy 225 = .ok (.iload 4, 2) := by decide +kernel
theorem dX7_setBy_227 : decode cX7_setBy 227 = .ok (.ifCond .ne 8, 3) := by decide +kernel
theorem dX7_setBy_230 : decode cX7_setBy 230 = .ok (.iload 5, 2) := by decide +kernel
theorem dX7_setBy_232 : decode cX7_setBy 232 = .ok (.goto 5, 3) := by decide +kernel
theorem dX7_setBy_235 : decode cX7_setBy 235 = .ok (.iload 6, 2) := by decide +kernel
theorem dX7_setBy_237 : decode cX7_setBy 237 = .ok (.ireturn, 1) := by decide +kernel
set_option maxRecDepth 20000 in
theorem ggX7_toWhole_X7_hand : GoodIn wsX7_toWhole wsX7_hand := goodIn_r _ [6, 1, 10, 11, 12, 13, 14, 15, 16, 17, 18, 19, 20, 21, 22, 23, 24, 25, 26, 27, 28, 29, 30, 31, 32, 33, 34, 35] (by decide +kernel) (by decide +kernel)
set_option maxRecDepth 20000 in
theorem gX7_toWhole_X7_hand : GoodIn wsX7_toWhole (wsV RX7 153 RX7 yX7_hand wsX7_hand) := goodIn_app (goodIn_of _ (by decide +kernel)) ggX7_toWhole_X7_hand
set_option maxRecDepth 20000 in
theorem ggX7_toWhole_X7_rest : GoodIn wsX7_toWhole wsX7_rest := goodIn_r _ [9] (by decide +kernel) (by decide +kernel)
set_option maxRecDepth 20000 in
theorem gX7_toWhole_X7_rest : GoodIn wsX7_toWhole (va_wsS RX7 146 yX7_rest wsX7_rest) := goodIn_app (goodIn_of _ (by decide +kernel)) ggX7_toWhole_X7_rest
theorem dX7_toWhole_0 : decode cX7_toWhole 0 = .ok (.aload_n 0, 1) := by decide +kernel
theorem dX7_toWhole_1 : decode cX7_toWhole 1 = .ok (.iload_n 1, 1) := by decide +kernel
theorem dX7_toWhole_2 : decode cX7_toWhole 2 = .ok (.iload_n 2, 1) := by decide +kernel
theorem dX7_toWhole_3 : decode cX7_toWhole 3 = .ok (.aload_n 0, 1) := by decide +kernel
theorem dX7_toWhole_4 : decode cX7_toWhole 4 = .ok (.getfield 7, 3) := by decide +kernel
theorem dX7_toWhole_7 : decode cX7_toWhole 7 = .ok (.bipush 6, 2) := by decide +kernel
theorem dX7_toWhole_9 : decode cX7_toWhole 9 = .ok (.iload_n 1, 1) := by decide +kernel
theorem dX7_toWhole_10 : decode cX7_toWhole 10 = .ok (.imul, 1) := by decide +kernel
theorem dX7_toWhole_11 : decode cX7_toWhole 11 = .ok (.iconst 3, 1) := by decide +kernel
theorem dX7_toWhole_12 : decode cX7_toWhole 12 = .ok (.iadd, 1) := by decide +kernel
theorem dX7_toWhole_13 : decode cX7_toWhole 13 = .ok (.iaload, 1) := by decide +kernel
theorem dX7_toWhole_14 : decode cX7_toWhole 14 = .ok (.invokevirtual 153, 3) := by decide +kernel
theorem dX7_toWhole_17 : decode cX7_toWhole 17 = .ok (.istore_n 3, 1) := by decide +kernel
theorem dX7_toWhole_18 : decode cX7_toWhole 18 = .ok (.aload_n 0, 1) := by decide +kernel
theorem dX7_toWhole_19 : decode cX7_toWhole 19 = .ok (.getfield 7, 3) := by decide +kernel
theorem dX7_toWhole_22 : decode cX7_toWhole 22 = .ok (.bipush 6, 2) := by decide +kernel
theorem dX7_toWhole_24 : decode cX7_toWhole 24 = .ok (.iload_n 1, 1) := by decide +kernel
theorem dX7_toWhole_25 : decode cX7_toWhole 25 = .ok (.imul, 1) := by decide +kernel
theorem dX7_toWhole_26 : decode cX7_toWhole 26 = .ok (.iaload, 1) := by decide +kernel
theorem dX7_toWhole_27 : decode cX7_toWhole 27 = .ok (.iconst 1, 1) := by decide +kernel
theorem dX7_toWhole_28 : decode cX7_toWhole 28 = .ok (.if_icmp .ne 7, 3) := by decide +kernel
theorem dX7_toWhole_31 : decode cX7_toWhole 31 = .ok (.iload_n 3, 1) := by decide +kernel
theorem dX7_toWhole_32 : decode cX7_toWhole 32 = .ok (.goto 5, 3) := by decide +kernel
theorem dX7_toWhole_35 : decode cX7_toWhole 35 = .ok (.iload_n 3, 1) := by decide +kernel
theorem dX7_toWhole_36 : decode cX7_toWhole 36 = .ok (.ineg, 1) := by decide +kernel
theorem dX7_toWhole_37 : decode cX7_toWhole 37 = .ok (.sipush 1440, 3) := by decide +kernel
theorem dX7_toWhole_40 : decode cX7_toWhole 40 = .ok (.invokestatic 146, 3) := by decide +kernel
theorem dX7_toWhole_43 : decode cX7_toWhole 43 = .ok (.ireturn, 1) := by decide +kernel
set_option maxRecDepth 20000 in
theorem ggX7_egg_X7_isClock : GoodIn wsX7_egg wsX7_isClock := goodIn_r _ [11, 12, 13, 14, 10, 15, 16, 17, 18, 37, 38, 39, 40, 41, 42, 43, 44, 45, 46, 47, 48, 49, 50, 51, 52, 53, 54, 55, 56, 57, 58, 59, 60, 61, 62] (by decide +kernel) (by decide +kernel)
set_option maxRecDepth 20000 in
theorem gX7_egg_X7_isClock : GoodIn wsX7_egg (wsV RX7 143 RX7 yX7_isClock wsX7_isClock) := goodIn_app (goodIn_of _ (by decide +kernel)) ggX7_egg_X7_isClock
set_option maxRecDepth 20000 in
theorem ggX7_egg_X7_isMinute : GoodIn wsX7_egg wsX7_isMinute := goodIn_r _ [21, 13, 14, 10, 15] (by decide +kernel) (by decide +kernel)
set_option maxRecDepth 20000 in
theorem gX7_egg_X7_isMinute : GoodIn wsX7_egg (va_wsS RX7 150 yX7_isMinute wsX7_isMinute) := goodIn_app (goodIn_of _ (by decide +kernel)) ggX7_egg_X7_isMinute
set_option maxRecDepth 20000 in
theorem ggX7_egg_X7_in : GoodIn wsX7_egg wsX7_in := goodIn_r _ [15] (by decide +kernel) (by decide +kernel)
set_option maxRecDepth 20000 in
theorem gX7_egg_X7_in : GoodIn wsX7_egg (va_wsS RX7 41 yX7_in wsX7_in) := goodIn_app (goodIn_of _ (by decide +kernel)) ggX7_egg_X7_in
set_option maxRecDepth 20000 in
theorem ggX7_egg_X7_isExact : GoodIn wsX7_egg wsX7_isExact := goodIn_r _ [25, 3, 7, 8, 9, 10, 11, 12, 13, 14, 15, 16, 17, 18, 37, 38, 39, 40, 41, 42, 43, 44, 45, 46, 47, 48, 49, 50, 51, 52, 53, 54, 55, 56, 57, 58, 59, 60, 61, 62] (by decide +kernel) (by decide +kernel)
set_option maxRecDepth 20000 in
theorem gX7_egg_X7_isExact : GoodIn wsX7_egg (wsV RX7 176 RX7 yX7_isExact wsX7_isExact) := goodIn_app (goodIn_of _ (by decide +kernel)) ggX7_egg_X7_isExact
set_option maxRecDepth 20000 in
theorem ggX7_egg_X7_toWhole : GoodIn wsX7_egg wsX7_toWhole := goodIn_r _ [29, 3, 30, 31, 32, 10, 33, 34, 35, 36, 37, 38, 39, 40, 41, 42, 43, 44, 45, 46, 47, 48, 49, 50, 51, 52, 53, 54, 55, 56, 57, 58, 59, 60, 61, 62] (by decide +kernel) (by decide +kernel)
set_option maxRecDepth 20000 in
theorem gX7_egg_X7_toWhole : GoodIn wsX7_egg (wsV RX7 206 RX7 yX7_toWhole wsX7_toWhole) := goodIn_app (goodIn_of _ (by decide +kernel)) ggX7_egg_X7_toWhole
theorem dX7_egg_0 : decode cX7_egg 0 = .ok (.aload_n 0, 1) := by decide +kernel
theorem dX7_egg_1 : decode cX7_egg 1 = .ok (.iload_n 1, 1) := by decide +kernel
theorem dX7_egg_2 : decode cX7_egg 2 = .ok (.invokevirtual 143, 3) := by decide +kernel
theorem dX7_egg_5 : decode cX7_egg 5 = .ok (.ifCond .eq 11, 3) := by decide +kernel
theorem dX7_egg_8 : decode cX7_egg 8 = .ok (.aload_n 0, 1) := by decide +kernel
theorem dX7_egg_9 : decode cX7_egg 9 = .ok (.iload_n 2, 1) := by decide +kernel
theorem dX7_egg_10 : decode cX7_egg 10 = .ok (.invokevirtual 143, 3) := by decide +kernel
theorem dX7_egg_13 : decode cX7_egg 13 = .ok (.ifCond .ne 7, 3) := by decide +kernel
theorem dX7_egg_16 : decode cX7_egg 16 = .ok (.ldc2_w 70, 3) := by decide +kernel
theorem dX7_egg_19 : decode cX7_egg 19 = .ok (.lreturn, 1) := by decide +kernel
theorem dX7_egg_20 : decode cX7_egg 20 = .ok (.iload_n 3, 1) := by decide +kernel
theorem dX7_egg_21 : decode cX7_egg 21 = .ok (.invokestatic 150, 3) := by decide +kernel
theorem dX7_egg_24 : decode cX7_egg 24 = .ok (.ifCond .eq 24, 3) := by decide +kernel
theorem dX7_egg_27 : decode cX7_egg 27 = .ok (.iload 4, 2) := by decide +kernel
theorem dX7_egg_29 : decode cX7_egg 29 = .ok (.iconst 1, 1) := by decide +kernel
theorem dX7_egg_30 : decode cX7_egg 30 = .ok (.bipush 60, 2) := by decide +kernel
theorem dX7_egg_32 : decode cX7_egg 32 = .ok (.invokestatic 41, 3) := by decide +kernel
theorem dX7_egg_35 : decode cX7_egg 35 = .ok (.ifCond .eq 13, 3) := by decide +kernel
theorem dX7_egg_38 : decode cX7_egg 38 = .ok (.iload 5, 2) := by decide +kernel
theorem dX7_egg_40 : decode cX7_egg 40 = .ok (.iconst 0, 1) := by decide +kernel
theorem dX7_egg_41 : decode cX7_egg 41 = .ok (.iconst 1, 1) := by decide +kernel
theorem dX7_egg_42 : decode cX7_egg 42 = .ok (.invokestatic 41, 3) := by decide +kernel
theorem dX7_egg_45 : decode cX7_egg 45 = .ok (.ifCond .ne 7, 3) := by decide +kernel
theorem dX7_egg_48 : decode cX7_egg 48 = .ok (.ldc2_w 84, 3) := by decide +kernel
theorem dX7_egg_51 : decode cX7_egg 51 = .ok (.lreturn, 1) := by decide +kernel
theorem dX7_egg_52 : decode cX7_egg 52 = .ok (.aload_n 0, 1) := by decide +kernel
theorem dX7_egg_53 : decode cX7_egg 53 = .ok (.getfield 7, 3) := by decide +kernel
theorem dX7_egg_56 : decode cX7_egg 56 = .ok (.bipush 6, 2) := by decide +kernel
theorem dX7_egg_58 : decode cX7_egg 58 = .ok (.iload_n 1, 1) := by decide +kernel
theorem dX7_egg_59 : decode cX7_egg 59 = .ok (.imul, 1) := by decide +kernel
theorem dX7_egg_60 : decode cX7_egg 60 = .ok (.iaload, 1) := by decide +kernel
theorem dX7_egg_61 : decode cX7_egg 61 = .ok (.iconst 2, 1) := by decide +kernel
theorem dX7_egg_62 : decode cX7_egg 62 = .ok (.if_icmp .eq 32, 3) := by decide +kernel
theorem dX7_egg_65 : decode cX7_egg 65 = .ok (.aload_n 0, 1) := by decide +kernel
theorem dX7_egg_66 : decode cX7_egg 66 = .ok (.getfield 7, 3) := by decide +kernel
theorem dX7_egg_69 : decode cX7_egg 69 = .ok (.bipush 6, 2) := by decide +kernel
theorem dX7_egg_71 : decode cX7_egg 71 = .ok (.iload_n 2, 1) := by decide +kernel
theorem dX7_egg_72 : decode cX7_egg 72 = .ok (.imul, 1) := by decide +kernel
theorem dX7_egg_73 : decode cX7_egg 73 = .ok (.iaload, 1) := by decide +kernel
theorem dX7_egg_74 : decode cX7_egg 74 = .ok (.iconst 2, 1) := by decide +kernel
theorem dX7_egg_75 : decode cX7_egg 75 = .ok (.if_icmp .eq 19, 3) := by decide +kernel
theorem dX7_egg_78 : decode cX7_egg 78 = .ok (.aload_n 0, 1) := by decide +kernel
theorem dX7_egg_79 : decode cX7_egg 79 = .ok (.iload_n 1, 1) := by decide +kernel
theorem dX7_egg_80 : decode cX7_egg 80 = .ok (.invokevirtual 176, 3) := by decide +kernel
theorem dX7_egg_83 : decode cX7_egg 83 = .ok (.ifCond .eq 11, 3) := by decide +kernel
theorem dX7_egg_86 : decode cX7_egg 86 = .ok (.aload_n 0, 1) := by decide +kernel
theorem dX7_egg_87 : decode cX7_egg 87 = .ok (.iload_n 2, 1) := by decide +kernel
theorem dX7_egg_88 : decode cX7_egg 88 = .ok (.invokevirtual 176, 3) := by decide +kernel
theorem dX7_egg_91 : decode cX7_egg 91 = .ok (.ifCond .ne 7, 3) := by decide +kernel
theorem dX7_egg_94 : decode cX7_egg 94 = .ok (.ldc2_w 80, 3) := by decide +kernel
theorem dX7_egg_97 : decode cX7_egg 97 = .ok (.lreturn, 1) := by decide +kernel
theorem dX7_egg_98 : decode cX7_egg 98 = .ok (.sipush 1440, 3) := by decide +kernel
theorem dX7_egg_101 : decode cX7_egg 101 = .ok (.aload_n 0, 1) := by decide +kernel
theorem dX7_egg_102 : decode cX7_egg 102 = .ok (.getfield 7, 3) := by decide +kernel
theorem dX7_egg_105 : decode cX7_egg 105 = .ok (.bipush 6, 2) := by decide +kernel
theorem dX7_egg_107 : decode cX7_egg 107 = .ok (.iload_n 1, 1) := by decide +kernel
theorem dX7_egg_108 : decode cX7_egg 108 = .ok (.imul, 1) := by decide +kernel
theorem dX7_egg_109 : decode cX7_egg 109 = .ok (.iconst 3, 1) := by decide +kernel
theorem dX7_egg_110 : decode cX7_egg 110 = .ok (.iadd, 1) := by decide +kernel
theorem dX7_egg_111 : decode cX7_egg 111 = .ok (.iaload, 1) := by decide +kernel
theorem dX7_egg_112 : decode cX7_egg 112 = .ok (.iadd, 1) := by decide +kernel
theorem dX7_egg_113 : decode cX7_egg 113 = .ok (.i2l, 1) := by decide +kernel
theorem dX7_egg_114 : decode cX7_egg 114 = .ok (.lstore 6, 2) := by decide +kernel
theorem dX7_egg_116 : decode cX7_egg 116 = .ok (.sipush 1440, 3) := by decide +kernel
theorem dX7_egg_119 : decode cX7_egg 119 = .ok (.aload_n 0, 1) := by decide +kernel
theorem dX7_egg_120 : decode cX7_egg 120 = .ok (.getfield 7, 3) := by decide +kernel
theorem dX7_egg_123 : decode cX7_egg 123 = .ok (.bipush 6, 2) := by decide +kernel
theorem dX7_egg_125 : decode cX7_egg 125 = .ok (.iload_n 2, 1) := by decide +kernel
theorem dX7_egg_126 : decode cX7_egg 126 = .ok (.imul, 1) := by decide +kernel
theorem dX7_egg_127 : decode cX7_egg 127 = .ok (.iconst 3, 1) := by decide +kernel
theorem dX7_egg_128 : decode cX7_egg 128 = .ok (.iadd, 1) := by decide +kernel
theorem dX7_egg_129 : decode cX7_egg 129 = .ok (.iaload, 1) := by decide +kernel
theorem dX7_egg_130 : decode cX7_egg 130 = .ok (.iadd, 1) := by decide +kernel
theorem dX7_egg_131 : decode cX7_egg 131 = .ok (.i2l, 1) := by decide +kernel
theorem dX7_egg_132 : decode cX7_egg 132 = .ok (.lstore 8, 2) := by decide +kernel
theorem dX7_egg_134 : decode cX7_egg 134 = .ok (.ldc2_w 82, 3) := by decide +kernel
theorem dX7_egg_137 : decode cX7_egg 137 = .ok (.lstore 10, 2) := by decide +kernel
theorem dX7_egg_139 : decode cX7_egg 139 = .ok (.iconst 0, 1) := by decide +kernel
theorem dX7_egg_140 : decode cX7_egg 140 = .ok (.istore 12, 2) := by decide +kernel
theorem dX7_egg_142 : decode cX7_egg 142 = .ok (.iload 12, 2) := by decide +kernel
theorem dX7_egg_144 : decode cX7_egg 144 = .ok (.bipush 60, 2) := by decide +kernel
theorem dX7_egg_146 : decode cX7_egg 146 = .ok (.if_icmp .ge 132, 3) := by decide +kernel
theorem dX7_egg_149 : decode cX7_egg 149 = .ok (.aload_n 0, 1) := by decide +kernel
theorem dX7_egg_150 : decode cX7_egg 150 = .ok (.iload_n 1, 1) := by decide +kernel
theorem dX7_egg_151 : decode cX7_egg 151 = .ok (.iload_n 3, 1) := by decide +kernel
theorem dX7_egg_152 : decode cX7_egg 152 = .ok (.invokevirtual 206, 3) := by decide +kernel
theorem dX7_egg_155 : decode cX7_egg 155 = .ok (.i2l, 1) := by decide +kernel
theorem dX7_egg_156 : decode cX7_egg 156 = .ok (.ldc2_w 209, 3) := by decide +kernel
theorem dX7_egg_159 : decode cX7_egg 159 = .ok (.iload 12, 2) := by decide +kernel
theorem dX7_egg_161 : decode cX7_egg 161 = .ok (.i2l, 1) := by decide +kernel
theorem dX7_egg_162 : decode cX7_egg 162 = .ok (.lmul, 1) := by decide +kernel
theorem dX7_egg_163 : decode cX7_egg 163 = .ok (.ladd, 1) := by decide +kernel
theorem dX7_egg_164 : decode cX7_egg 164 = .ok (.lload 8, 2) := by decide +kernel
theorem dX7_egg_166 : decode cX7_egg 166 = .ok (.lmul, 1) := by decide +kernel
theorem dX7_egg_167 : decode cX7_egg 167 = .ok (.lstore 13, 2) := by decide +kernel
theorem dX7_egg_169 : decode cX7_egg 169 = .ok (.iconst 0, 1) := by decide +kernel
theorem dX7_egg_170 : decode cX7_egg 170 = .ok (.istore 15, 2) := by decide +kernel
theorem dX7_egg_172 : decode cX7_egg 172 = .ok (.iload 15, 2) := by decide +kernel
theorem dX7_egg_174 : decode cX7_egg 174 = .ok (.sipush 240, 3) := by decide +kernel
theorem dX7_egg_177 : decode cX7_egg 177 = .ok (.if_icmp .ge 95, 3) := by decide +kernel
theorem dX7_egg_180 : decode cX7_egg 180 = .ok (.aload_n 0, 1) := by decide +kernel
theorem dX7_egg_181 : decode cX7_egg 181 = .ok (.iload_n 2, 1) := by decide +kernel
theorem dX7_egg_182 : decode cX7_egg 182 = .ok (.iload_n 3, 1) := by decide +kernel
theorem dX7_egg_183 : decode cX7_egg 183 = .ok (.invokevirtual 206, 3) := by decide +kernel
theorem dX7_egg_186 : decode cX7_egg 186 = .ok (.i2l, 1) := by decide +kernel
theorem dX7_egg_187 : decode cX7_egg 187 = .ok (.ldc2_w 209, 3) := by decide +kernel
theorem dX7_egg_190 : decode cX7_egg 190 = .ok (.iload 15, 2) := by decide +kernel
theorem dX7_egg_192 : decode cX7_egg 192 = .ok (.i2l, 1) := by decide +kernel
theorem dX7_egg_193 : decode cX7_egg 193 = .ok (.lmul, 1) := by decide +kernel
theorem dX7_egg_194 : decode cX7_egg 194 = .ok (.ladd, 1) := by decide +kernel
theorem dX7_egg_195 : decode cX7_egg 195 = .ok (.lload 6, 2) := by decide +kernel
theorem dX7_egg_197 : decode cX7_egg 197 = .ok (.lmul, 1) := by decide +kernel
theorem dX7_egg_198 : decode cX7_egg 198 = .ok (.lstore 16, 2) := by decide +kernel
theorem dX7_egg_200 : decode cX7_egg 200 = .ok (.lload 16, 2) := by decide +kernel
theorem dX7_egg_202 : decode cX7_egg 202 = .ok (.lload 13, 2) := by decide +kernel
theorem dX7_egg_204 : decode cX7_egg 204 = .ok (.lsub, 1) := by decide +kernel
theorem dX7_egg_205 : decode cX7_egg 205 = .ok (.iload 4, 2) := by decide +kernel
theorem dX7_egg_207 : decode cX7_egg 207 = .ok (.i2l, 1) := by decide +kernel
theorem dX7_egg_208 : decode cX7_egg 208 = .ok (.lload 6, 2) := by decide +kernel
theorem dX7_egg_210 : decode cX7_egg 210 = .ok (.lmul, 1) := by decide +kernel
theorem dX7_egg_211 : decode cX7_egg 211 = .ok (.lload 8, 2) := by decide +kernel
theorem dX7_egg_213 : decode cX7_egg 213 = .ok (.lmul, 1) := by decide +kernel
theorem dX7_egg_214 : decode cX7_egg 214 = .ok (.lsub, 1) := by decide +kernel
theorem dX7_egg_215 : decode cX7_egg 215 = .ok (.lstore 18, 2) := by decide +kernel
theorem dX7_egg_217 : decode cX7_egg 217 = .ok (.lload 18, 2) := by decide +kernel
theorem dX7_egg_219 : decode cX7_egg 219 = .ok (.lconst 0, 1) := by decide +kernel
theorem dX7_egg_220 : decode cX7_egg 220 = .ok (.lcmp, 1) := by decide +kernel
theorem dX7_egg_221 : decode cX7_egg 221 = .ok (.ifCond .ge 9, 3) := by decide +kernel
theorem dX7_egg_224 : decode cX7_egg 224 = .ok (.lload 18, 2) := by decide +kernel
theorem dX7_egg_226 : decode cX7_egg 226 = .ok (.lneg, 1) := by decide +kernel
theorem dX7_egg_227 : decode cX7_egg 227 = .ok (.goto 5, 3) := by decide +kernel
theorem dX7_egg_230 : decode cX7_egg 230 = .ok (.lload 18, 2) := by decide +kernel
theorem dX7_egg_232 : decode cX7_egg 232 = .ok (.lstore 18, 2) := by decide +kernel
theorem dX7_egg_234 : decode cX7_egg 234 = .ok (.lload 16, 2) := by decide +kernel
theorem dX7_egg_236 : decode cX7_egg 236 = .ok (.lload 13, 2) := by decide +kernel
theorem dX7_egg_238 : decode cX7_egg 238 = .ok (.lcmp, 1) := by decide +kernel
theorem dX7_egg_239 : decode cX7_egg 239 = .ok (.ifCond .le 23, 3) := by decide +kernel
theorem dX7_egg_242 : decode cX7_egg 242 = .ok (.lload 10, 2) := by decide +kernel
theorem dX7_egg_244 : decode cX7_egg 244 = .ok (.lconst 0, 1) := by decide +kernel
theorem dX7_egg_245 : decode cX7_egg 245 = .ok (.lcmp, 1) := by decide +kernel
theorem dX7_egg_246 : decode cX7_egg 246 = .ok (.ifCond .lt 11, 3) := by decide +kernel
theorem dX7_egg_249 : decode cX7_egg 249 = .ok (.lload 18, 2) := by decide +kernel
theorem dX7_egg_251 : decode cX7_egg 251 = .ok (.lload 10, 2) := by decide +kernel
theorem dX7_egg_253 : decode cX7_egg 253 = .ok (.lcmp, 1) := by decide +kernel
theorem dX7_egg_254 : decode cX7_egg 254 = .ok (.ifCond .ge 8, 3) := by decide +kernel
theorem dX7_egg_257 : decode cX7_egg 257 = .ok (.lload 18, 2) := by decide +kernel
theorem dX7_egg_259 : decode cX7_egg 259 = .ok (.goto 5, 3) := by decide +kernel
theorem dX7_egg_262 : decode cX7_egg 262 = .ok (.lload 10, 2) := by decide +kernel
theorem dX7_egg_264 : decode cX7_egg 264 = .ok (.lstore 10, 2) := by decide +kernel
theorem dX7_egg_266 : decode cX7_egg 266 = .ok (.iinc 15 1, 3) := by decide +kernel
theorem dX7_egg_269 : decode cX7_egg 269 = .ok (.goto (-97), 3) := by decide +kernel
theorem dX7_egg_272 : decode cX7_egg 272 = .ok (.iinc 12 1, 3) := by decide +kernel
theorem dX7_egg_275 : decode cX7_egg 275 = .ok (.goto (-133), 3) := by decide +kernel
theorem dX7_egg_278 : decode cX7_egg 278 = .ok (.lload 10, 2) := by decide +kernel
theorem dX7_egg_280 : decode cX7_egg 280 = .ok (.lstore 12, 2) := by decide +kernel
theorem dX7_egg_282 : decode cX7_egg 282 = .ok (.lload 6, 2) := by decide +kernel
theorem dX7_egg_284 : decode cX7_egg 284 = .ok (.lload 8, 2) := by decide +kernel
theorem dX7_egg_286 : decode cX7_egg 286 = .ok (.lmul, 1) := by decide +kernel
theorem dX7_egg_287 : decode cX7_egg 287 = .ok (.lstore 14, 2) := by decide +kernel
theorem dX7_egg_289 : decode cX7_egg 289 = .ok (.lload 14, 2) := by decide +kernel
theorem dX7_egg_291 : decode cX7_egg 291 = .ok (.lconst 0, 1) := by decide +kernel
theorem dX7_egg_292 : decode cX7_egg 292 = .ok (.lcmp, 1) := by decide +kernel
theorem dX7_egg_293 : decode cX7_egg 293 = .ok (.ifCond .eq 21, 3) := by decide +kernel
theorem dX7_egg_296 : decode cX7_egg 296 = .ok (.lload 12, 2) := by decide +kernel
theorem dX7_egg_298 : decode cX7_egg 298 = .ok (.lload 14, 2) := by decide +kernel
theorem dX7_egg_300 : decode cX7_egg 300 = .ok (.lrem, 1) := by decide +kernel
theorem dX7_egg_301 : decode cX7_egg 301 = .ok (.lstore 16, 2) := by decide +kernel
theorem dX7_egg_303 : decode cX7_egg 303 = .ok (.lload 14, 2) := by decide +kernel
theorem dX7_egg_305 : decode cX7_egg 305 = .ok (.lstore 12, 2) := by decide +kernel
theorem dX7_egg_307 : decode cX7_egg 307 = .ok (.lload 16, 2) := by decide +kernel
theorem dX7_egg_309 : decode cX7_egg 309 = .ok (.lstore 14, 2) := by decide +kernel
theorem dX7_egg_311 : decode cX7_egg 311 = .ok (.goto (-22), 3) := by decide +kernel
theorem dX7_egg_314 : decode cX7_egg 314 = .ok (.iload 5, 2) := by decide +kernel
theorem dX7_egg_316 : decode cX7_egg 316 = .ok (.ifCond .ne 8, 3) := by decide +kernel
theorem dX7_egg_319 : decode cX7_egg 319 = .ok (.lload 10, 2) := by decide +kernel
theorem dX7_egg_321 : decode cX7_egg 321 = .ok (.goto 8, 3) := by decide +kernel
theorem dX7_egg_324 : decode cX7_egg 324 = .ok (.lload 6, 2) := by decide +kernel
theorem dX7_egg_326 : decode cX7_egg 326 = .ok (.lload 8, 2) := by decide +kernel
theorem dX7_egg_328 : decode cX7_egg 328 = .ok (.lmul, 1) := by decide +kernel
theorem dX7_egg_329 : decode cX7_egg 329 = .ok (.lload 12, 2) := by decide +kernel
theorem dX7_egg_331 : decode cX7_egg 331 = .ok (.ldiv, 1) := by decide +kernel
theorem dX7_egg_332 : decode cX7_egg 332 = .ok (.lreturn, 1) := by decide +kernel
theorem dX7_greatest_0 : decode cX7_greatest 0 = .ok (.iconst 0, 1) := by decide +kernel
theorem dX7_greatest_1 : decode cX7_greatest 1 = .ok (.istore_n 1, 1) := by decide +kernel
theorem dX7_greatest_2 : decode cX7_greatest 2 = .ok (.iconst 0, 1) := by decide +kernel
theorem dX7_greatest_3 : decode cX7_greatest 3 = .ok (.istore_n 2, 1) := by decide +kernel
theorem dX7_greatest_4 : decode cX7_greatest 4 = .ok (.iconst 0, 1) := by decide +kernel
theorem dX7_greatest_5 : decode cX7_greatest 5 = .ok (.istore_n 3, 1) := by decide +kernel
theorem dX7_greatest_6 : decode cX7_greatest 6 = .ok (.iload_n 3, 1) := by decide +kernel
theorem dX7_greatest_7 : decode cX7_greatest 7 = .ok (.aload_n 0, 1) := by decide +kernel
theorem dX7_greatest_8 : decode cX7_greatest 8 = .ok (.getfield 211, 3) := by decide +kernel
theorem dX7_greatest_11 : decode cX7_greatest 11 = .ok (.if_icmp .ge 53, 3) := by decide +kernel
theorem dX7_greatest_14 : decode cX7_greatest 14 = .ok (.iload_n 1, 1) := by decide +kernel
theorem dX7_greatest_15 : decode cX7_greatest 15 = .ok (.aload_n 0, 1) := by decide +kernel
theorem dX7_greatest_16 : decode cX7_greatest 16 = .ok (.getfield 7, 3) := by decide +kernel
theorem dX7_greatest_19 : decode cX7_greatest 19 = .ok (.bipush 6, 2) := by decide +kernel
theorem dX7_greatest_21 : decode cX7_greatest 21 = .ok (.aload_n 0, 1) := by decide +kernel
theorem dX7_greatest_22 : decode cX7_greatest 22 = .ok (.getfield 35, 3) := by decide +kernel
theorem dX7_greatest_25 : decode cX7_greatest 25 = .ok (.iload_n 3, 1) := by decide +kernel
theorem dX7_greatest_26 : decode cX7_greatest 26 = .ok (.iaload, 1) := by decide +kernel
theorem dX7_greatest_27 : decode cX7_greatest 27 = .ok (.imul, 1) := by decide +kernel
theorem dX7_greatest_28 : decode cX7_greatest 28 = .ok (.iconst 3, 1) := by decide +kernel
theorem dX7_greatest_29 : decode cX7_greatest 29 = .ok (.iadd, 1) := by decide +kernel
theorem dX7_greatest_30 : decode cX7_greatest 30 = .ok (.iaload, 1) := by decide +kernel
theorem dX7_greatest_31 : decode cX7_greatest 31 = .ok (.iadd, 1) := by decide +kernel
theorem dX7_greatest_32 : decode cX7_greatest 32 = .ok (.istore_n 1, 1) := by decide +kernel
theorem dX7_greatest_33 : decode cX7_greatest 33 = .ok (.iload_n 1, 1) := by decide +kernel
theorem dX7_greatest_34 : decode cX7_greatest 34 = .ok (.ifCond .ge 8, 3) := by decide +kernel
theorem dX7_greatest_37 : decode cX7_greatest 37 = .ok (.iload_n 1, 1) := by decide +kernel
theorem dX7_greatest_38 : decode cX7_greatest 38 = .ok (.ineg, 1) := by decide +kernel
theorem dX7_greatest_39 : decode cX7_greatest 39 = .ok (.goto 4, 3) := by decide +kernel
theorem dX7_greatest_42 : decode cX7_greatest 42 = .ok (.iload_n 1, 1) := by decide +kernel
theorem dX7_greatest_43 : decode cX7_greatest 43 = .ok (.istore 4, 2) := by decide +kernel
theorem dX7_greatest_45 : decode cX7_greatest 45 = .ok (.iload 4, 2) := by decide +kernel
theorem dX7_greatest_47 : decode cX7_greatest 47 = .ok (.iload_n 2, 1) := by decide +kernel
theorem dX7_greatest_48 : decode cX7_greatest 48 = .ok (.if_icmp .le 8, 3) := by decide +kernel
theorem dX7_greatest_51 : decode cX7_greatest 51 = .ok (.iload 4, 2) := by decide +kernel
theorem dX7_greatest_53 : decode cX7_greatest 53 = .ok (.goto 4, 3) := by decide +kernel
theorem dX7_greatest_56 : decode cX7_greatest 56 = .ok (.iload_n 2, 1) := by decide +kernel
theorem dX7_greatest_57 : decode cX7_greatest 57 = .ok (.istore_n 2, 1) := by decide +kernel
theorem dX7_greatest_58 : decode cX7_greatest 58 = .ok (.iinc 3 1, 3) := by decide +kernel
theorem dX7_greatest_61 : decode cX7_greatest 61 = .ok (.goto (-55), 3) := by decide +kernel
theorem dX7_greatest_64 : decode cX7_greatest 64 = .ok (.iload_n 2, 1) := by decide +kernel
theorem dX7_greatest_65 : decode cX7_greatest 65 = .ok (.ireturn, 1) := by decide +kernel
set_option maxRecDepth 20000 in
theorem ggX7_take_X7_greatest : GoodIn wsX7_take wsX7_greatest := goodIn_r _ [9, 2, 10, 4, 11, 12, 13, 14, 15, 16, 17, 18, 19, 20, 21, 22, 23, 24, 25, 26, 27, 28, 29, 30, 31, 32, 33, 34, 35, 36] (by decide +kernel) (by decide +kernel)
set_option maxRecDepth 20000 in
theorem gX7_take_X7_greatest : GoodIn wsX7_take (wsV RX7 214 RX7 yX7_greatest wsX7_greatest) := goodIn_app (goodIn_of _ (by decide +kernel)) ggX7_take_X7_greatest
theorem dX7_take_0 : decode cX7_take 0 = .ok (.aload_n 0, 1) := by decide +kernel
theorem dX7_take_1 : decode cX7_take 1 = .ok (.aload_n 0, 1) := by decide +kernel
theorem dX7_take_2 : decode cX7_take 2 = .ok (.invokevirtual 214, 3) := by decide +kernel
theorem dX7_take_5 : decode cX7_take 5 = .ok (.putfield 218, 3) := by decide +kernel
theorem dX7_take_8 : decode cX7_take 8 = .ok (.iconst 0, 1) := by decide +kernel
theorem dX7_take_9 : decode cX7_take 9 = .ok (.istore_n 1, 1) := by decide +kernel
theorem dX7_take_10 : decode cX7_take 10 = .ok (.iload_n 1, 1) := by decide +kernel
theorem dX7_take_11 : decode cX7_take 11 = .ok (.aload_n 0, 1) := by decide +kernel
theorem dX7_take_12 : decode cX7_take 12 = .ok (.getfield 211, 3) := by decide +kernel
theorem dX7_take_15 : decode cX7_take 15 = .ok (.if_icmp .ge 21, 3) := by decide +kernel
theorem dX7_take_18 : decode cX7_take 18 = .ok (.aload_n 0, 1) := by decide +kernel
theorem dX7_take_19 : decode cX7_take 19 = .ok (.getfield 38, 3) := by decide +kernel
theorem dX7_take_22 : decode cX7_take 22 = .ok (.iload_n 1, 1) := by decide +kernel
theorem dX7_take_23 : decode cX7_take 23 = .ok (.aload_n 0, 1) := by decide +kernel
theorem dX7_take_24 : decode cX7_take 24 = .ok (.getfield 35, 3) := by decide +kernel
theorem dX7_take_27 : decode cX7_take 27 = .ok (.iload_n 1, 1) := by decide +kernel
theorem dX7_take_28 : decode cX7_take 28 = .ok (.iaload, 1) := by decide +kernel
theorem dX7_take_29 : decode cX7_take 29 = .ok (.iastore, 1) := by decide +kernel
theorem dX7_take_30 : decode cX7_take 30 = .ok (.iinc 1 1, 3) := by decide +kernel
theorem dX7_take_33 : decode cX7_take 33 = .ok (.goto (-23), 3) := by decide +kernel
theorem dX7_take_36 : decode cX7_take 36 = .ok (.return_, 1) := by decide +kernel
theorem dX7_nextRow_0 : decode cX7_nextRow 0 = .ok (.aload_n 0, 1) := by decide +kernel
theorem dX7_nextRow_1 : decode cX7_nextRow 1 = .ok (.getfield 211, 3) := by decide +kernel
theorem dX7_nextRow_4 : decode cX7_nextRow 4 = .ok (.iconst 2, 1) := by decide +kernel
theorem dX7_nextRow_5 : decode cX7_nextRow 5 = .ok (.isub, 1) := by decide +kernel
theorem dX7_nextRow_6 : decode cX7_nextRow 6 = .ok (.istore_n 1, 1) := by decide +kernel
theorem dX7_nextRow_7 : decode cX7_nextRow 7 = .ok (.iload_n 1, 1) := by decide +kernel
theorem dX7_nextRow_8 : decode cX7_nextRow 8 = .ok (.ifCond .lt 26, 3) := by decide +kernel
theorem dX7_nextRow_11 : decode cX7_nextRow 11 = .ok (.aload_n 0, 1) := by decide +kernel
theorem dX7_nextRow_12 : decode cX7_nextRow 12 = .ok (.getfield 35, 3) := by decide +kernel
theorem dX7_nextRow_15 : decode cX7_nextRow 15 = .ok (.iload_n 1, 1) := by decide +kernel
theorem dX7_nextRow_16 : decode cX7_nextRow 16 = .ok (.iaload, 1) := by decide +kernel
theorem dX7_nextRow_17 : decode cX7_nextRow 17 = .ok (.aload_n 0, 1) := by decide +kernel
theorem dX7_nextRow_18 : decode cX7_nextRow 18 = .ok (.getfield 35, 3) := by decide +kernel
theorem dX7_nextRow_21 : decode cX7_nextRow 21 = .ok (.iload_n 1, 1) := by decide +kernel
theorem dX7_nextRow_22 : decode cX7_nextRow 22 = .ok (.iconst 1, 1) := by decide +kernel
theorem dX7_nextRow_23 : decode cX7_nextRow 23 = .ok (.iadd, 1) := by decide +kernel
theorem dX7_nextRow_24 : decode cX7_nextRow 24 = .ok (.iaload, 1) := by decide +kernel
theorem dX7_nextRow_25 : decode cX7_nextRow 25 = .ok (.if_icmp .le 9, 3) := by decide +kernel
theorem dX7_nextRow_28 : decode cX7_nextRow 28 = .ok (.iinc 1 (-1), 3) := by decide +kernel
theorem dX7_nextRow_31 : decode cX7_nextRow 31 = .ok (.goto (-24), 3) := by decide +kernel
theorem dX7_nextRow_34 : decode cX7_nextRow 34 = .ok (.iload_n 1, 1) := by decide +kernel
theorem dX7_nextRow_35 : decode cX7_nextRow 35 = .ok (.ifCond .ge 5, 3) := by decide +kernel
theorem dX7_nextRow_38 : decode cX7_nextRow 38 = .ok (.iconst 0, 1) := by decide +kernel
theorem dX7_nextRow_39 : decode cX7_nextRow 39 = .ok (.ireturn, 1) := by decide +kernel
theorem dX7_nextRow_40 : decode cX7_nextRow 40 = .ok (.aload_n 0, 1) := by decide +kernel
theorem dX7_nextRow_41 : decode cX7_nextRow 41 = .ok (.getfield 211, 3) := by decide +kernel
theorem dX7_nextRow_44 : decode cX7_nextRow 44 = .ok (.iconst 1, 1) := by decide +kernel
theorem dX7_nextRow_45 : decode cX7_nextRow 45 = .ok (.isub, 1) := by decide +kernel
theorem dX7_nextRow_46 : decode cX7_nextRow 46 = .ok (.istore_n 2, 1) := by decide +kernel
theorem dX7_nextRow_47 : decode cX7_nextRow 47 = .ok (.aload_n 0, 1) := by decide +kernel
theorem dX7_nextRow_48 : decode cX7_nextRow 48 = .ok (.getfield 35, 3) := by decide +kernel
theorem dX7_nextRow_51 : decode cX7_nextRow 51 = .ok (.iload_n 2, 1) := by decide +kernel
theorem dX7_nextRow_52 : decode cX7_nextRow 52 = .ok (.iaload, 1) := by decide +kernel
theorem dX7_nextRow_53 : decode cX7_nextRow 53 = .ok (.aload_n 0, 1) := by decide +kernel
theorem dX7_nextRow_54 : decode cX7_nextRow 54 = .ok (.getfield 35, 3) := by decide +kernel
theorem dX7_nextRow_57 : decode cX7_nextRow 57 = .ok (.iload_n 1, 1) := by decide +kernel
theorem dX7_nextRow_58 : decode cX7_nextRow 58 = .ok (.iaload, 1) := by decide +kernel
theorem dX7_nextRow_59 : decode cX7_nextRow 59 = .ok (.if_icmp .ge 9, 3) := by decide +kernel
theorem dX7_nextRow_62 : decode cX7_nextRow 62 = .ok (.iinc 2 (-1), 3) := by decide +kernel
theorem dX7_nextRow_65 : decode cX7_nextRow 65 = .ok (.goto (-18), 3) := by decide +kernel
theorem dX7_nextRow_68 : decode cX7_nextRow 68 = .ok (.aload_n 0, 1) := by decide +kernel
theorem dX7_nextRow_69 : decode cX7_nextRow 69 = .ok (.getfield 35, 3) := by decide +kernel
theorem dX7_nextRow_72 : decode cX7_nextRow 72 = .ok (.iload_n 1, 1) := by decide +kernel
theorem dX7_nextRow_73 : decode cX7_nextRow 73 = .ok (.iaload, 1) := by decide +kernel
theorem dX7_nextRow_74 : decode cX7_nextRow 74 = .ok (.istore_n 3, 1) := by decide +kernel
theorem dX7_nextRow_75 : decode cX7_nextRow 75 = .ok (.aload_n 0, 1) := by decide +kernel
theorem dX7_nextRow_76 : decode cX7_nextRow 76 = .ok (.getfield 35, 3) := by decide +kernel
theorem dX7_nextRow_79 : decode cX7_nextRow 79 = .ok (.iload_n 1, 1) := by decide +kernel
theorem dX7_nextRow_80 : decode cX7_nextRow 80 = .ok (.aload_n 0, 1) := by decide +kernel
theorem dX7_nextRow_81 : decode cX7_nextRow 81 = .ok (.getfield 35, 3) := by decide +kernel
theorem dX7_nextRow_84 : decode cX7_nextRow 84 = .ok (.iload_n 2, 1) := by decide +kernel
theorem dX7_nextRow_85 : decode cX7_nextRow 85 = .ok (.iaload, 1) := by decide +kernel
theorem dX7_nextRow_86 : decode cX7_nextRow 86 = .ok (.iastore, 1) := by decide +kernel
theorem dX7_nextRow_87 : decode cX7_nextRow 87 = .ok (.aload_n 0, 1) := by decide +kernel
theorem dX7_nextRow_88 : decode cX7_nextRow 88 = .ok (.getfield 35, 3) := by decide +kernel
theorem dX7_nextRow_91 : decode cX7_nextRow 91 = .ok (.iload_n 2, 1) := by decide +kernel
theorem dX7_nextRow_92 : decode cX7_nextRow 92 = .ok (.iload_n 3, 1) := by decide +kernel
theorem dX7_nextRow_93 : decode cX7_nextRow 93 = .ok (.iastore, 1) := by decide +kernel
theorem dX7_nextRow_94 : decode cX7_nextRow 94 = .ok (.iload_n 1, 1) := by decide +kernel
theorem dX7_nextRow_95 : decode cX7_nextRow 95 = .ok (.iconst 1, 1) := by decide +kernel
theorem dX7_nextRow_96 : decode cX7_nextRow 96 = .ok (.iadd, 1) := by decide +kernel
theorem dX7_nextRow_97 : decode cX7_nextRow 97 = .ok (.istore 4, 2) := by decide +kernel
theorem dX7_nextRow_99 : decode cX7_nextRow 99 = .ok (.aload_n 0, 1) := by decide +kernel
theorem dX7_nextRow_100 : decode cX7_nextRow 100 = .ok (.getfield 211, 3) := by decide +kernel
theorem dX7_nextRow_103 : decode cX7_nextRow 103 = .ok (.iconst 1, 1) := by decide +kernel
theorem dX7_nextRow_104 : decode cX7_nextRow 104 = .ok (.isub, 1) := by decide +kernel
theorem dX7_nextRow_105 : decode cX7_nextRow 105 = .ok (.istore 5, 2) := by decide +kernel
theorem dX7_nextRow_107 : decode cX7_nextRow 107 = .ok (.iload 4, 2) := by decide +kernel
theorem dX7_nextRow_109 : decode cX7_nextRow 109 = .ok (.iload 5, 2) := by decide +kernel
theorem dX7_nextRow_111 : decode cX7_nextRow 111 = .ok (.if_icmp .ge 42, 3) := by decide +kernel
theorem dX7_nextRow_114 : decode cX7_nextRow 114 = .ok (.aload_n 0, 1) := by decide +kernel
theorem dX7_nextRow_115 : decode cX7_nextRow 115 = .ok (.getfield 35, 3) := by decide +kernel
theorem dX7_nextRow_118 : decode cX7_nextRow 118 = .ok (.iload 4, 2) := by decide +kernel
theorem dX7_nextRow_120 : decode cX7_nextRow 120 = .ok (.iaload, 1) := by decide +kernel
theorem dX7_nextRow_121 : decode cX7_nextRow 121 = .ok (.istore_n 3, 1) := by decide +kernel
theorem dX7_nextRow_122 : decode cX7_nextRow 122 = .ok (.aload_n 0, 1) := by decide +kernel
theorem dX7_nextRow_123 : decode cX7_nextRow 123 = .ok (.getfield 35, 3) := by decide +kernel
theorem dX7_nextRow_126 : decode cX7_nextRow 126 = .ok (.iload 4, 2) := by decide +kernel
theorem dX7_nextRow_128 : decode cX7_nextRow 128 = .ok (.aload_n 0, 1) := by decide +kernel
theorem dX7_nextRow_129 : decode cX7_nextRow 129 = .ok (.getfield 35, 3) := by decide +kernel
theorem dX7_nextRow_132 : decode cX7_nextRow 132 = .ok (.iload 5, 2) := by decide +kernel
theorem dX7_nextRow_134 : decode cX7_nextRow 134 = .ok (.iaload, 1) := by decide +kernel
theorem dX7_nextRow_135 : decode cX7_nextRow 135 = .ok (.iastore, 1) := by decide +kernel
theorem dX7_nextRow_136 : decode cX7_nextRow 136 = .ok (.aload_n 0, 1) := by decide +kernel
theorem dX7_nextRow_137 : decode cX7_nextRow 137 = .ok (.getfield 35, 3) := by decide +kernel
theorem dX7_nextRow_140 : decode cX7_nextRow 140 = .ok (.iload 5, 2) := by decide +kernel
theorem dX7_nextRow_142 : decode cX7_nextRow 142 = .ok (.iload_n 3, 1) := by decide +kernel
theorem dX7_nextRow_143 : decode cX7_nextRow 143 = .ok (.iastore, 1) := by decide +kernel
theorem dX7_nextRow_144 : decode cX7_nextRow 144 = .ok (.iinc 4 1, 3) := by decide +kernel
theorem dX7_nextRow_147 : decode cX7_nextRow 147 = .ok (.iinc 5 (-1), 3) := by decide +kernel
theorem dX7_nextRow_150 : decode cX7_nextRow 150 = .ok (.goto (-43), 3) := by decide +kernel
theorem dX7_nextRow_153 : decode cX7_nextRow 153 = .ok (.iconst 1, 1) := by decide +kernel
theorem dX7_nextRow_154 : decode cX7_nextRow 154 = .ok (.ireturn, 1) := by decide +kernel
set_option maxRecDepth 20000 in
theorem ggX7_order_X7_isExact : GoodIn wsX7_order wsX7_isExact := goodIn_r _ [10, 1, 11, 12, 13, 9, 14, 15, 16, 17, 18, 19, 20, 21, 34, 35, 36, 37, 38, 39, 40, 41, 42, 43, 44, 45, 46, 47, 48, 49, 50, 51, 52, 53, 54, 55, 56, 57, 58, 59] (by decide +kernel) (by decide +kernel)
set_option maxRecDepth 20000 in
theorem gX7_order_X7_isExact : GoodIn wsX7_order (wsV RX7 176 RX7 yX7_isExact wsX7_isExact) := goodIn_app (goodIn_of _ (by decide +kernel)) ggX7_order_X7_isExact
set_option maxRecDepth 20000 in
theorem ggX7_order_X7_in : GoodIn wsX7_order wsX7_in := goodIn_r _ [18] (by decide +kernel) (by decide +kernel)
set_option maxRecDepth 20000 in
theorem gX7_order_X7_in : GoodIn wsX7_order (va_wsS RX7 41 yX7_in wsX7_in) := goodIn_app (goodIn_of _ (by decide +kernel)) ggX7_order_X7_in
set_option maxRecDepth 20000 in
theorem ggX7_order_X7_take : GoodIn wsX7_order wsX7_take := goodIn_r _ [25, 4, 3, 5, 2, 26, 27, 28, 9, 29, 1, 34, 35, 36, 37, 38, 39, 40, 41, 42, 43, 44, 45, 46, 47, 48, 49, 50, 51, 52, 53, 54, 55, 56, 57, 58, 59] (by decide +kernel) (by decide +kernel)
set_option maxRecDepth 20000 in
theorem gX7_order_X7_take : GoodIn wsX7_order (wsV RX7 221 RX7 yX7_take wsX7_take) := goodIn_app (goodIn_of _ (by decide +kernel)) ggX7_order_X7_take
set_option maxRecDepth 20000 in
theorem ggX7_order_X7_nextRow : GoodIn wsX7_order wsX7_nextRow := goodIn_r _ [33, 3, 2, 34, 35, 36, 37, 38, 39, 40, 41, 42, 43, 44, 45, 46, 47, 48, 49, 50, 51, 52, 53, 54, 55, 56, 57, 58, 59] (by decide +kernel) (by decide +kernel)
set_option maxRecDepth 20000 in
theorem gX7_order_X7_nextRow : GoodIn wsX7_order (wsV RX7 224 RX7 yX7_nextRow wsX7_nextRow) := goodIn_app (goodIn_of _ (by decide +kernel)) ggX7_order_X7_nextRow
set_option maxRecDepth 20000 in
theorem ggX7_order_X7_greatest : GoodIn wsX7_order wsX7_greatest := goodIn_r _ [29, 3, 1, 2, 34, 35, 36, 37, 38, 39, 40, 41, 42, 43, 44, 45, 46, 47, 48, 49, 50, 51, 52, 53, 54, 55, 56, 57, 58, 59] (by decide +kernel) (by decide +kernel)
set_option maxRecDepth 20000 in
theorem gX7_order_X7_greatest : GoodIn wsX7_order (wsV RX7 214 RX7 yX7_greatest wsX7_greatest) := goodIn_app (goodIn_of _ (by decide +kernel)) ggX7_order_X7_greatest
theorem dX7_order_0 : decode cX7_order 0 = .ok (.iload_n 1, 1) := by decide +kernel
theorem dX7_order_1 : decode cX7_order 1 = .ok (.iconst (-1), 1) := by decide +kernel
theorem dX7_order_2 : decode cX7_order 2 = .ok (.if_icmp .ge 6, 3) := by decide +kernel
theorem dX7_order_5 : decode cX7_order 5 = .ok (.bipush (-3), 2) := by decide +kernel
theorem dX7_order_7 : decode cX7_order 7 = .ok (.ireturn, 1) := by decide +kernel
theorem dX7_order_8 : decode cX7_order 8 = .ok (.iconst 0, 1) := by decide +kernel
theorem dX7_order_9 : decode cX7_order 9 = .ok (.istore_n 2, 1) := by decide +kernel
theorem dX7_order_10 : decode cX7_order 10 = .ok (.iconst 0, 1) := by decide +kernel
theorem dX7_order_11 : decode cX7_order 11 = .ok (.istore_n 3, 1) := by decide +kernel
theorem dX7_order_12 : decode cX7_order 12 = .ok (.iload_n 3, 1) := by decide +kernel
theorem dX7_order_13 : decode cX7_order 13 = .ok (.bipush 8, 2) := by decide +kernel
theorem dX7_order_15 : decode cX7_order 15 = .ok (.if_icmp .ge 45, 3) := by decide +kernel
theorem dX7_order_18 : decode cX7_order 18 = .ok (.aload_n 0, 1) := by decide +kernel
theorem dX7_order_19 : decode cX7_order 19 = .ok (.iload_n 3, 1) := by decide +kernel
theorem dX7_order_20 : decode cX7_order 20 = .ok (.invokevirtual 176, 3) := by decide +kernel
theorem dX7_order_23 : decode cX7_order 23 = .ok (.ifCond .eq 31, 3) := by decide +kernel
theorem dX7_order_26 : decode cX7_order 26 = .ok (.aload_n 0, 1) := by decide +kernel
theorem dX7_order_27 : decode cX7_order 27 = .ok (.getfield 7, 3) := by decide +kernel
theorem dX7_order_30 : decode cX7_order 30 = .ok (.bipush 6, 2) := by decide +kernel
theorem dX7_order_32 : decode cX7_order 32 = .ok (.iload_n 3, 1) := by decide +kernel
theorem dX7_order_33 : decode cX7_order 33 = .ok (.imul, 1) := by decide +kernel
theorem dX7_order_34 : decode cX7_order 34 = .ok (.iaload, 1) := by decide +kernel
theorem dX7_order_35 : decode cX7_order 35 = .ok (.ifCond .ne 19, 3) := by decide +kernel
theorem dX7_order_38 : decode cX7_order 38 = .ok (.iload_n 2, 1) := by decide +kernel
theorem dX7_order_39 : decode cX7_order 39 = .ok (.bipush 6, 2) := by decide +kernel
theorem dX7_order_41 : decode cX7_order 41 = .ok (.if_icmp .ge 10, 3) := by decide +kernel
theorem dX7_order_44 : decode cX7_order 44 = .ok (.aload_n 0, 1) := by decide +kernel
theorem dX7_order_45 : decode cX7_order 45 = .ok (.getfield 35, 3) := by decide +kernel
theorem dX7_order_48 : decode cX7_order 48 = .ok (.iload_n 2, 1) := by decide +kernel
theorem dX7_order_49 : decode cX7_order 49 = .ok (.iload_n 3, 1) := by decide +kernel
theorem dX7_order_50 : decode cX7_order 50 = .ok (.iastore, 1) := by decide +kernel
theorem dX7_order_51 : decode cX7_order 51 = .ok (.iinc 2 1, 3) := by decide +kernel
theorem dX7_order_54 : decode cX7_order 54 = .ok (.iinc 3 1, 3) := by decide +kernel
theorem dX7_order_57 : decode cX7_order 57 = .ok (.goto (-45), 3) := by decide +kernel
theorem dX7_order_60 : decode cX7_order 60 = .ok (.iload_n 2, 1) := by decide +kernel
theorem dX7_order_61 : decode cX7_order 61 = .ok (.iconst 1, 1) := by decide +kernel
theorem dX7_order_62 : decode cX7_order 62 = .ok (.bipush 6, 2) := by decide +kernel
theorem dX7_order_64 : decode cX7_order 64 = .ok (.invokestatic 41, 3) := by decide +kernel
theorem dX7_order_67 : decode cX7_order 67 = .ok (.ifCond .ne 6, 3) := by decide +kernel
theorem dX7_order_70 : decode cX7_order 70 = .ok (.bipush (-4), 2) := by decide +kernel
theorem dX7_order_72 : decode cX7_order 72 = .ok (.ireturn, 1) := by decide +kernel
theorem dX7_order_73 : decode cX7_order 73 = .ok (.aload_n 0, 1) := by decide +kernel
theorem dX7_order_74 : decode cX7_order 74 = .ok (.iload_n 2, 1) := by decide +kernel
theorem dX7_order_75 : decode cX7_order 75 = .ok (.putfield 211, 3) := by decide +kernel
theorem dX7_order_78 : decode cX7_order 78 = .ok (.aload_n 0, 1) := by decide +kernel
theorem dX7_order_79 : decode cX7_order 79 = .ok (.invokevirtual 221, 3) := by decide +kernel
theorem dX7_order_82 : decode cX7_order 82 = .ok (.aload_n 0, 1) := by decide +kernel
theorem dX7_order_83 : decode cX7_order 83 = .ok (.invokevirtual 224, 3) := by decide +kernel
theorem dX7_order_86 : decode cX7_order 86 = .ok (.ifCond .eq 21, 3) := by decide +kernel
theorem dX7_order_89 : decode cX7_order 89 = .ok (.aload_n 0, 1) := by decide +kernel
theorem dX7_order_90 : decode cX7_order 90 = .ok (.invokevirtual 214, 3) := by decide +kernel
theorem dX7_order_93 : decode cX7_order 93 = .ok (.aload_n 0, 1) := by decide +kernel
theorem dX7_order_94 : decode cX7_order 94 = .ok (.getfield 218, 3) := by decide +kernel
theorem dX7_order_97 : decode cX7_order 97 = .ok (.if_icmp .ge (-15), 3) := by decide +kernel
theorem dX7_order_100 : decode cX7_order 100 = .ok (.aload_n 0, 1) := by decide +kernel
theorem dX7_order_101 : decode cX7_order 101 = .ok (.invokevirtual 221, 3) := by decide +kernel
theorem dX7_order_104 : decode cX7_order 104 = .ok (.goto (-22), 3) := by decide +kernel
theorem dX7_order_107 : decode cX7_order 107 = .ok (.iload_n 1, 1) := by decide +kernel
theorem dX7_order_108 : decode cX7_order 108 = .ok (.iconst (-1), 1) := by decide +kernel
theorem dX7_order_109 : decode cX7_order 109 = .ok (.if_icmp .ne 10, 3) := by decide +kernel
theorem dX7_order_112 : decode cX7_order 112 = .ok (.aload_n 0, 1) := by decide +kernel
theorem dX7_order_113 : decode cX7_order 113 = .ok (.getfield 218, 3) := by decide +kernel
theorem dX7_order_116 : decode cX7_order 116 = .ok (.goto 18, 3) := by decide +kernel
theorem dX7_order_119 : decode cX7_order 119 = .ok (.iload_n 1, 1) := by decide +kernel
theorem dX7_order_120 : decode cX7_order 120 = .ok (.iload_n 2, 1) := by decide +kernel
theorem dX7_order_121 : decode cX7_order 121 = .ok (.if_icmp .ge 12, 3) := by decide +kernel
theorem dX7_order_124 : decode cX7_order 124 = .ok (.aload_n 0, 1) := by decide +kernel
theorem dX7_order_125 : decode cX7_order 125 = .ok (.getfield 38, 3) := by decide +kernel
theorem dX7_order_128 : decode cX7_order 128 = .ok (.iload_n 1, 1) := by decide +kernel
theorem dX7_order_129 : decode cX7_order 129 = .ok (.iaload, 1) := by decide +kernel
theorem dX7_order_130 : decode cX7_order 130 = .ok (.goto 4, 3) := by decide +kernel
theorem dX7_order_133 : decode cX7_order 133 = .ok (.iconst (-1), 1) := by decide +kernel
theorem dX7_order_134 : decode cX7_order 134 = .ok (.ireturn, 1) := by decide +kernel
set_option maxRecDepth 20000 in
theorem ggX7_keep_X7_in : GoodIn wsX7_keep wsX7_in := goodIn_r _ [11] (by decide +kernel) (by decide +kernel)
set_option maxRecDepth 20000 in
theorem gX7_keep_X7_in : GoodIn wsX7_keep (va_wsS RX7 41 yX7_in wsX7_in) := goodIn_app (goodIn_of _ (by decide +kernel)) ggX7_keep_X7_in
set_option maxRecDepth 20000 in
theorem ggX7_keep_X7_bits : GoodIn wsX7_keep wsX7_bits := goodIn_r _ [14] (by decide +kernel) (by decide +kernel)
set_option maxRecDepth 20000 in
theorem gX7_keep_X7_bits : GoodIn wsX7_keep (va_wsS RX7 173 yX7_bits wsX7_bits) := goodIn_app (goodIn_of _ (by decide +kernel)) ggX7_keep_X7_bits
theorem dX7_keep_0 : decode cX7_keep 0 = .ok (.iload_n 1, 1) := by decide +kernel
theorem dX7_keep_1 : decode cX7_keep 1 = .ok (.iconst 0, 1) := by decide +kernel
theorem dX7_keep_2 : decode cX7_keep 2 = .ok (.iconst 1, 1) := by decide +kernel
theorem dX7_keep_3 : decode cX7_keep 3 = .ok (.invokestatic 41, 3) := by decide +kernel
theorem dX7_keep_6 : decode cX7_keep 6 = .ok (.ifCond .ne 6, 3) := by decide +kernel
theorem dX7_keep_9 : decode cX7_keep 9 = .ok (.bipush (-2), 2) := by decide +kernel
theorem dX7_keep_11 : decode cX7_keep 11 = .ok (.ireturn, 1) := by decide +kernel
theorem dX7_keep_12 : decode cX7_keep 12 = .ok (.bipush 90, 2) := by decide +kernel
theorem dX7_keep_14 : decode cX7_keep 14 = .ok (.iload_n 1, 1) := by decide +kernel
theorem dX7_keep_15 : decode cX7_keep 15 = .ok (.imul, 1) := by decide +kernel
theorem dX7_keep_16 : decode cX7_keep 16 = .ok (.istore_n 2, 1) := by decide +kernel
theorem dX7_keep_17 : decode cX7_keep 17 = .ok (.aload_n 0, 1) := by decide +kernel
theorem dX7_keep_18 : decode cX7_keep 18 = .ok (.getfield 28, 3) := by decide +kernel
theorem dX7_keep_21 : decode cX7_keep 21 = .ok (.iload_n 2, 1) := by decide +kernel
theorem dX7_keep_22 : decode cX7_keep 22 = .ok (.aload_n 0, 1) := by decide +kernel
theorem dX7_keep_23 : decode cX7_keep 23 = .ok (.getfield 45, 3) := by decide +kernel
theorem dX7_keep_26 : decode cX7_keep 26 = .ok (.iastore, 1) := by decide +kernel
theorem dX7_keep_27 : decode cX7_keep 27 = .ok (.aload_n 0, 1) := by decide +kernel
theorem dX7_keep_28 : decode cX7_keep 28 = .ok (.getfield 28, 3) := by decide +kernel
theorem dX7_keep_31 : decode cX7_keep 31 = .ok (.iload_n 2, 1) := by decide +kernel
theorem dX7_keep_32 : decode cX7_keep 32 = .ok (.iconst 1, 1) := by decide +kernel
theorem dX7_keep_33 : decode cX7_keep 33 = .ok (.iadd, 1) := by decide +kernel
theorem dX7_keep_34 : decode cX7_keep 34 = .ok (.aload_n 0, 1) := by decide +kernel
theorem dX7_keep_35 : decode cX7_keep 35 = .ok (.getfield 136, 3) := by decide +kernel
theorem dX7_keep_38 : decode cX7_keep 38 = .ok (.iastore, 1) := by decide +kernel
theorem dX7_keep_39 : decode cX7_keep 39 = .ok (.aload_n 0, 1) := by decide +kernel
theorem dX7_keep_40 : decode cX7_keep 40 = .ok (.getfield 28, 3) := by decide +kernel
theorem dX7_keep_43 : decode cX7_keep 43 = .ok (.iload_n 2, 1) := by decide +kernel
theorem dX7_keep_44 : decode cX7_keep 44 = .ok (.iconst 2, 1) := by decide +kernel
theorem dX7_keep_45 : decode cX7_keep 45 = .ok (.iadd, 1) := by decide +kernel
theorem dX7_keep_46 : decode cX7_keep 46 = .ok (.aload_n 0, 1) := by decide +kernel
theorem dX7_keep_47 : decode cX7_keep 47 = .ok (.getfield 179, 3) := by decide +kernel
theorem dX7_keep_50 : decode cX7_keep 50 = .ok (.iastore, 1) := by decide +kernel
theorem dX7_keep_51 : decode cX7_keep 51 = .ok (.iconst 0, 1) := by decide +kernel
theorem dX7_keep_52 : decode cX7_keep 52 = .ok (.istore_n 3, 1) := by decide +kernel
theorem dX7_keep_53 : decode cX7_keep 53 = .ok (.iload_n 3, 1) := by decide +kernel
theorem dX7_keep_54 : decode cX7_keep 54 = .ok (.bipush 48, 2) := by decide +kernel
theorem dX7_keep_56 : decode cX7_keep 56 = .ok (.if_icmp .ge 25, 3) := by decide +kernel
theorem dX7_keep_59 : decode cX7_keep 59 = .ok (.aload_n 0, 1) := by decide +kernel
theorem dX7_keep_60 : decode cX7_keep 60 = .ok (.getfield 28, 3) := by decide +kernel
theorem dX7_keep_63 : decode cX7_keep 63 = .ok (.iload_n 2, 1) := by decide +kernel
theorem dX7_keep_64 : decode cX7_keep 64 = .ok (.iconst 3, 1) := by decide +kernel
theorem dX7_keep_65 : decode cX7_keep 65 = .ok (.iadd, 1) := by decide +kernel
theorem dX7_keep_66 : decode cX7_keep 66 = .ok (.iload_n 3, 1) := by decide +kernel
theorem dX7_keep_67 : decode cX7_keep 67 = .ok (.iadd, 1) := by decide +kernel
theorem dX7_keep_68 : decode cX7_keep 68 = .ok (.aload_n 0, 1) := by decide +kernel
theorem dX7_keep_69 : decode cX7_keep 69 = .ok (.getfield 7, 3) := by decide +kernel
theorem dX7_keep_72 : decode cX7_keep 72 = .ok (.iload_n 3, 1) := by decide +kernel
theorem dX7_keep_73 : decode cX7_keep 73 = .ok (.iaload, 1) := by decide +kernel
theorem dX7_keep_74 : decode cX7_keep 74 = .ok (.iastore, 1) := by decide +kernel
theorem dX7_keep_75 : decode cX7_keep 75 = .ok (.iinc 3 1, 3) := by decide +kernel
theorem dX7_keep_78 : decode cX7_keep 78 = .ok (.goto (-25), 3) := by decide +kernel
theorem dX7_keep_81 : decode cX7_keep 81 = .ok (.iconst 0, 1) := by decide +kernel
theorem dX7_keep_82 : decode cX7_keep 82 = .ok (.istore_n 3, 1) := by decide +kernel
theorem dX7_keep_83 : decode cX7_keep 83 = .ok (.iload_n 3, 1) := by decide +kernel
theorem dX7_keep_84 : decode cX7_keep 84 = .ok (.bipush 36, 2) := by decide +kernel
theorem dX7_keep_86 : decode cX7_keep 86 = .ok (.if_icmp .ge 26, 3) := by decide +kernel
theorem dX7_keep_89 : decode cX7_keep 89 = .ok (.aload_n 0, 1) := by decide +kernel
theorem dX7_keep_90 : decode cX7_keep 90 = .ok (.getfield 28, 3) := by decide +kernel
theorem dX7_keep_93 : decode cX7_keep 93 = .ok (.iload_n 2, 1) := by decide +kernel
theorem dX7_keep_94 : decode cX7_keep 94 = .ok (.bipush 51, 2) := by decide +kernel
theorem dX7_keep_96 : decode cX7_keep 96 = .ok (.iadd, 1) := by decide +kernel
theorem dX7_keep_97 : decode cX7_keep 97 = .ok (.iload_n 3, 1) := by decide +kernel
theorem dX7_keep_98 : decode cX7_keep 98 = .ok (.iadd, 1) := by decide +kernel
theorem dX7_keep_99 : decode cX7_keep 99 = .ok (.aload_n 0, 1) := by decide +kernel
theorem dX7_keep_100 : decode cX7_keep 100 = .ok (.getfield 13, 3) := by decide +kernel
theorem dX7_keep_103 : decode cX7_keep 103 = .ok (.iload_n 3, 1) := by decide +kernel
theorem dX7_keep_104 : decode cX7_keep 104 = .ok (.iaload, 1) := by decide +kernel
theorem dX7_keep_105 : decode cX7_keep 105 = .ok (.iastore, 1) := by decide +kernel
theorem dX7_keep_106 : decode cX7_keep 106 = .ok (.iinc 3 1, 3) := by decide +kernel
theorem dX7_keep_109 : decode cX7_keep 109 = .ok (.goto (-26), 3) := by decide +kernel
theorem dX7_keep_112 : decode cX7_keep 112 = .ok (.aload_n 0, 1) := by decide +kernel
theorem dX7_keep_113 : decode cX7_keep 113 = .ok (.getfield 31, 3) := by decide +kernel
theorem dX7_keep_116 : decode cX7_keep 116 = .ok (.iload_n 1, 1) := by decide +kernel
theorem dX7_keep_117 : decode cX7_keep 117 = .ok (.iconst 1, 1) := by decide +kernel
theorem dX7_keep_118 : decode cX7_keep 118 = .ok (.bastore, 1) := by decide +kernel
theorem dX7_keep_119 : decode cX7_keep 119 = .ok (.aload_n 0, 1) := by decide +kernel
theorem dX7_keep_120 : decode cX7_keep 120 = .ok (.getfield 45, 3) := by decide +kernel
theorem dX7_keep_123 : decode cX7_keep 123 = .ok (.invokestatic 173, 3) := by decide +kernel
theorem dX7_keep_126 : decode cX7_keep 126 = .ok (.ireturn, 1) := by decide +kernel
set_option maxRecDepth 20000 in
theorem ggX7_back_X7_in : GoodIn wsX7_back wsX7_in := goodIn_r _ [11] (by decide +kernel) (by decide +kernel)
set_option maxRecDepth 20000 in
theorem gX7_back_X7_in : GoodIn wsX7_back (va_wsS RX7 41 yX7_in wsX7_in) := goodIn_app (goodIn_of _ (by decide +kernel)) ggX7_back_X7_in
set_option maxRecDepth 20000 in
theorem ggX7_back_X7_bits : GoodIn wsX7_back wsX7_bits := goodIn_r _ [14] (by decide +kernel) (by decide +kernel)
set_option maxRecDepth 20000 in
theorem gX7_back_X7_bits : GoodIn wsX7_back (va_wsS RX7 173 yX7_bits wsX7_bits) := goodIn_app (goodIn_of _ (by decide +kernel)) ggX7_back_X7_bits
theorem dX7_back_0 : decode cX7_back 0 = .ok (.iload_n 1, 1) := by decide +kernel
theorem dX7_back_1 : decode cX7_back 1 = .ok (.iconst 0, 1) := by decide +kernel
theorem dX7_back_2 : decode cX7_back 2 = .ok (.iconst 1, 1) := by decide +kernel
theorem dX7_back_3 : decode cX7_back 3 = .ok (.invokestatic 41, 3) := by decide +kernel
theorem dX7_back_6 : decode cX7_back 6 = .ok (.ifCond .ne 6, 3) := by decide +kernel
theorem dX7_back_9 : decode cX7_back 9 = .ok (.bipush (-2), 2) := by decide +kernel
theorem dX7_back_11 : decode cX7_back 11 = .ok (.ireturn, 1) := by decide +kernel
theorem dX7_back_12 : decode cX7_back 12 = .ok (.aload_n 0, 1) := by decide +kernel
theorem dX7_back_13 : decode cX7_back 13 = .ok (.getfield 31, 3) := by decide +kernel
theorem dX7_back_16 : decode cX7_back 16 = .ok (.iload_n 1, 1) := by decide +kernel
theorem dX7_back_17 : decode cX7_back 17 = .ok (.baload, 1) := by decide +kernel
theorem dX7_back_18 : decode cX7_back 18 = .ok (.ifCond .ne 6, 3) := by decide +kernel
theorem dX7_back_21 : decode cX7_back 21 = .ok (.bipush (-4), 2) := by decide +kernel
theorem dX7_back_23 : decode cX7_back 23 = .ok (.ireturn, 1) := by decide +kernel
theorem dX7_back_24 : decode cX7_back 24 = .ok (.bipush 90, 2) := by decide +kernel
theorem dX7_back_26 : decode cX7_back 26 = .ok (.iload_n 1, 1) := by decide +kernel
theorem dX7_back_27 : decode cX7_back 27 = .ok (.imul, 1) := by decide +kernel
theorem dX7_back_28 : decode cX7_back 28 = .ok (.istore_n 2, 1) := by decide +kernel
theorem dX7_back_29 : decode cX7_back 29 = .ok (.aload_n 0, 1) := by decide +kernel
theorem dX7_back_30 : decode cX7_back 30 = .ok (.aload_n 0, 1) := by decide +kernel
theorem dX7_back_31 : decode cX7_back 31 = .ok (.getfield 28, 3) := by decide +kernel
theorem dX7_back_34 : decode cX7_back 34 = .ok (.iload_n 2, 1) := by decide +kernel
theorem dX7_back_35 : decode cX7_back 35 = .ok (.iaload, 1) := by decide +kernel
theorem dX7_back_36 : decode cX7_back 36 = .ok (.putfield 45, 3) := by decide +kernel
theorem dX7_back_39 : decode cX7_back 39 = .ok (.aload_n 0, 1) := by decide +kernel
theorem dX7_back_40 : decode cX7_back 40 = .ok (.aload_n 0, 1) := by decide +kernel
theorem dX7_back_41 : decode cX7_back 41 = .ok (.getfield 28, 3) := by decide +kernel
theorem dX7_back_44 : decode cX7_back 44 = .ok (.iload_n 2, 1) := by decide +kernel
theorem dX7_back_45 : decode cX7_back 45 = .ok (.iconst 1, 1) := by decide +kernel
theorem dX7_back_46 : decode cX7_back 46 = .ok (.iadd, 1) := by decide +kernel
theorem dX7_back_47 : decode cX7_back 47 = .ok (.iaload, 1) := by decide +kernel
theorem dX7_back_48 : decode cX7_back 48 = .ok (.putfield 136, 3) := by decide +kernel
theorem dX7_back_51 : decode cX7_back 51 = .ok (.aload_n 0, 1) := by decide +kernel
theorem dX7_back_52 : decode cX7_back 52 = .ok (.aload_n 0, 1) := by decide +kernel
theorem dX7_back_53 : decode cX7_back 53 = .ok (.getfield 28, 3) := by decide +kernel
theorem dX7_back_56 : decode cX7_back 56 = .ok (.iload_n 2, 1) := by decide +kernel
theorem dX7_back_57 : decode cX7_back 57 = .ok (.iconst 2, 1) := by decide +kernel
theorem dX7_back_58 : decode cX7_back 58 = .ok (.iadd, 1) := by decide +kernel
theorem dX7_back_59 : decode cX7_back 59 = .ok (.iaload, 1) := by decide +kernel
theorem dX7_back_60 : decode cX7_back 60 = .ok (.putfield 179, 3) := by decide +kernel
theorem dX7_back_63 : decode cX7_back 63 = .ok (.iconst 0, 1) := by decide +kernel
theorem dX7_back_64 : decode cX7_back 64 = .ok (.istore_n 3, 1) := by decide +kernel
theorem dX7_back_65 : decode cX7_back 65 = .ok (.iload_n 3, 1) := by decide +kernel
theorem dX7_back_66 : decode cX7_back 66 = .ok (.bipush 48, 2) := by decide +kernel
theorem dX7_back_68 : decode cX7_back 68 = .ok (.if_icmp .ge 25, 3) := by decide +kernel
theorem dX7_back_71 : decode cX7_back 71 = .ok (.aload_n 0, 1) := by decide +kernel
theorem dX7_back_72 : decode cX7_back 72 = .ok (.getfield 7, 3) := by decide +kernel
theorem dX7_back_75 : decode cX7_back 75 = .ok (.iload_n 3, 1) := by decide +kernel
theorem dX7_back_76 : decode cX7_back 76 = .ok (.aload_n 0, 1) := by decide +kernel
theorem dX7_back_77 : decode cX7_back 77 = .ok (.getfield 28, 3) := by decide +kernel
theorem dX7_back_80 : decode cX7_back 80 = .ok (.iload_n 2, 1) := by decide +kernel
theorem dX7_back_81 : decode cX7_back 81 = .ok (.iconst 3, 1) := by decide +kernel
theorem dX7_back_82 : decode cX7_back 82 = .ok (.iadd, 1) := by decide +kernel
theorem dX7_back_83 : decode cX7_back 83 = .ok (.iload_n 3, 1) := by decide +kernel
theorem dX7_back_84 : decode cX7_back 84 = .ok (.iadd, 1) := by decide +kernel
theorem dX7_back_85 : decode cX7_back 85 = .ok (.iaload, 1) := by decide +kernel
theorem dX7_back_86 : decode cX7_back 86 = .ok (.iastore, 1) := by decide +kernel
theorem dX7_back_87 : decode cX7_back 87 = .ok (.iinc 3 1, 3) := by decide +kernel
theorem dX7_back_90 : decode cX7_back 90 = .ok (.goto (-25), 3) := by decide +kernel
theorem dX7_back_93 : decode cX7_back 93 = .ok (.iconst 0, 1) := by decide +kernel
theorem dX7_back_94 : decode cX7_back 94 = .ok (.istore_n 3, 1) := by decide +kernel
theorem dX7_back_95 : decode cX7_back 95 = .ok (.iload_n 3, 1) := by decide +kernel
theorem dX7_back_96 : decode cX7_back 96 = .ok (.bipush 36, 2) := by decide +kernel
theorem dX7_back_98 : decode cX7_back 98 = .ok (.if_icmp .ge 26, 3) := by decide +kernel
theorem dX7_back_101 : decode cX7_back 101 = .ok (.aload_n 0, 1) := by decide +kernel
theorem dX7_back_102 : decode cX7_back 102 = .ok (.getfield 13, 3) := by decide +kernel
theorem dX7_back_105 : decode cX7_back 105 = .ok (.iload_n 3, 1) := by decide +kernel
theorem dX7_back_106 : decode cX7_back 106 = .ok (.aload_n 0, 1) := by decide +kernel
theorem dX7_back_107 : decode cX7_back 107 = .ok (.getfield 28, 3) := by decide +kernel
theorem dX7_back_110 : decode cX7_back 110 = .ok (.iload_n 2, 1) := by decide +kernel
theorem dX7_back_111 : decode cX7_back 111 = .ok (.bipush 51, 2) := by decide +kernel
theorem dX7_back_113 : decode cX7_back 113 = .ok (.iadd, 1) := by decide +kernel
theorem dX7_back_114 : decode cX7_back 114 = .ok (.iload_n 3, 1) := by decide +kernel
theorem dX7_back_115 : decode cX7_back 115 = .ok (.iadd, 1) := by decide +kernel
theorem dX7_back_116 : decode cX7_back 116 = .ok (.iaload, 1) := by decide +kernel
theorem dX7_back_117 : decode cX7_back 117 = .ok (.iastore, 1) := by decide +kernel
theorem dX7_back_118 : decode cX7_back 118 = .ok (.iinc 3 1, 3) := by decide +kernel
theorem dX7_back_121 : decode cX7_back 121 = .ok (.goto (-26), 3) := by decide +kernel
theorem dX7_back_124 : decode cX7_back 124 = .ok (.aload_n 0, 1) := by decide +kernel
theorem dX7_back_125 : decode cX7_back 125 = .ok (.getfield 45, 3) := by decide +kernel
theorem dX7_back_128 : decode cX7_back 128 = .ok (.invokestatic 173, 3) := by decide +kernel
theorem dX7_back_131 : decode cX7_back 131 = .ok (.ireturn, 1) := by decide +kernel
theorem dX7_count_0 : decode cX7_count 0 = .ok (.iload_n 1, 1) := by decide +kernel
theorem dX7_count_1 : decode cX7_count 1 = .ok (.tableswitch 51 0 3 #[31, 36, 41, 46], 31) := by decide +kernel
theorem dX7_count_32 : decode cX7_count 32 = .ok (.aload_n 0, 1) := by decide +kernel
theorem dX7_count_33 : decode cX7_count 33 = .ok (.getfield 45, 3) := by decide +kernel
theorem dX7_count_36 : decode cX7_count 36 = .ok (.ireturn, 1) := by decide +kernel
theorem dX7_count_37 : decode cX7_count 37 = .ok (.aload_n 0, 1) := by decide +kernel
theorem dX7_count_38 : decode cX7_count 38 = .ok (.getfield 136, 3) := by decide +kernel
theorem dX7_count_41 : decode cX7_count 41 = .ok (.ireturn, 1) := by decide +kernel
theorem dX7_count_42 : decode cX7_count 42 = .ok (.aload_n 0, 1) := by decide +kernel
theorem dX7_count_43 : decode cX7_count 43 = .ok (.getfield 179, 3) := by decide +kernel
theorem dX7_count_46 : decode cX7_count 46 = .ok (.ireturn, 1) := by decide +kernel
theorem dX7_count_47 : decode cX7_count 47 = .ok (.aload_n 0, 1) := by decide +kernel
theorem dX7_count_48 : decode cX7_count 48 = .ok (.getfield 53, 3) := by decide +kernel
theorem dX7_count_51 : decode cX7_count 51 = .ok (.ireturn, 1) := by decide +kernel
theorem dX7_count_52 : decode cX7_count 52 = .ok (.bipush (-3), 2) := by decide +kernel
theorem dX7_count_54 : decode cX7_count 54 = .ok (.ireturn, 1) := by decide +kernel
end
section
/-! My own layer over the kit's rows: a contract that is a function (what is answered, what the cells are behind it), one context, one state of the heap. -/
def nw_l : List (String × Nat × MethodName × String) := [("WrongClocks", 11, ⟨"WrongClocks$Text", "<init>", "()V"⟩, "WrongClocks"), ("WrongClocks$House", 23, ⟨"WrongClocks$Notes", "<init>", "()V"⟩, "WrongClocks"), ("WrongClocks$House", 28, ⟨"WrongClocks$Clock", "<init>", "()V"⟩, "WrongClocks"), ("WrongClocks", 29, ⟨"WrongClocks$Tally", "<init>", "()V"⟩, "WrongClocks"), ("WrongClocks", 36, ⟨"WrongClocks$Clock", "<init>", "()V"⟩, "WrongClocks"), ("WrongClocks", 43, ⟨"WrongClocks$Queue", "<init>", "()V"⟩, "WrongClocks"), ("WrongClocks$Text", 31, ⟨"WrongClocks", "isBelow", "(II)Z"⟩, "WrongClocks"), ("WrongClocks$House", 36, ⟨"WrongClocks", "isBelow", "(II)Z"⟩, "WrongClocks"), ("WrongClocks$Queue", 41, ⟨"WrongClocks", "isBelow", "(II)Z"⟩, "WrongClocks")]
def nw_q (q : String × Nat × MethodName × String) : Cond := .methodLinkNest q.1 q.2.1 q.2.2.1 q.2.2.2
def NW (U : State) : Prop := ∀ q ∈ nw_l, va_Nw (nw_q q) U
theorem NW.warm {s U : State} (hW : s.WarmedH U.vm) (h : NW s) : NW U := fun q hq => va_Nw.warmM hW (h q hq)
theorem NW.same {s U : State} (e : s.vm = U.vm) (h : NW s) : NW U := fun q hq => va_Nw.same rfl e (h q hq)
/-- what a method of mine leaves: the answer v, the cells w1, and nothing else touched -/
def GQ (D : va_G) (v : Option Value) (w1 : va_W) (A : Nat → Prop) : Array Value → State → Outcome → State → Prop := fun _ st oc t => oc = .returned v ∧ va_P D vwCl w1 t.heap ∧ va_D A w1 ∧ va_F A st t
def GP (D : va_G) (tys : List (ClassId × FieldType)) (sz : Nat) (av : List Value) (ws : va_W) : Array Value → State → Prop := va_Pc av (fun U => U.heap.size = sz ∧ va_P D vwCl ws U.heap ∧ va_K D vwCl tys U ∧ va_D (fun _ => True) ws ∧ NW U)
def MC (l : Launch) (D : va_G) (tys : List (ClassId × FieldType)) (y : MethodName) (wsy : List Cond) (fr lo : Nat) (av : List Value) (ws : va_W) (v : Option Value) (w1 : va_W) : Prop :=
  ∀ sz : Nat, Met l y wsy ({ frames := fr, cells := 0, slots := 0, locals := lo }) (GP D tys sz av ws) (GQ D v w1 (va_A ws sz)) 0 0 (va_A ws sz)
theorem GP.blind {D : va_G} {tys : List (ClassId × FieldType)} {sz : Nat} {av : List Value} {ws : va_W} : FrameBlind (GP D tys sz av ws) := fun a U g mk q => by
  obtain ⟨q0, q1, qP, qK, qD, qN⟩ := q
  exact ⟨q0, q1, qP, va_K.moved (u := U) (U := U.calling g mk a) (Vm.Alike.refl U.vm) qK, qD, NW.same (s := U) (U := U.calling g mk a) rfl qN⟩
def HS (D : va_G) (A : Nat → Prop) (H0 : Heap) (w : va_W) (H : Heap) (locs : List Loc) : Prop := va_P D vwCl w H ∧ va_D A w ∧ va_S A H0 H locs
/-- what stays the same while a body is walked -/
def Cx (D : va_G) (tys : List (ClassId × FieldType)) (p : Program) (s : State) (m : MethodId) (args : Array Value) (c : Code) (cc : ByteArray) (nL : Nat) (Ts : List Cond) (own : String) (A : Nat → Prop) : Prop :=
  p.tables.exec = Jvm.exec ∧ c.code = cc ∧ c.maxLocals = nL ∧ s.vm.findClass own = some m.cls ∧ (∀ w ∈ Ts, w.before args s = true) ∧ va_K D vwCl tys s ∧ NW s ∧ (∀ q : Nat, s.heap.size ≤ q → A q)
/-- a callee's cells wc among the caller's ws; behind the call w1 stands in their place: ws1 -/
def JN (ws wc w1 ws1 : va_W) : Prop := (∀ (D : va_G) (H : Heap), va_P D vwCl ws H → va_P D vwCl wc H) ∧ (∀ A : Nat → Prop, va_D A ws → va_D A wc) ∧
  ∀ (D : va_G) (A : Nat → Prop) (H H1 : Heap), va_P D vwCl ws H → va_D A ws → (∀ q : Nat, q < H.size → ¬ va_A wc H.size q → H1[q]? = H[q]?) → (∀ q : Nat, H.size ≤ q → A q) → va_P D vwCl w1 H1 → va_D (va_A wc H.size) w1 → va_P D vwCl ws1 H1 ∧ va_D A ws1
theorem JN.all {ws w1 : va_W} : JN ws ws w1 w1 := by
  refine ⟨fun _ _ h => h, fun _ h => h, fun D A H H1 hP hD _ hA hP1 hD1 => ⟨hP1, hD1.weaken (fun k q hk h => ?_)⟩⟩
  rcases h with ⟨j, e, hj⟩ | h
  · exact hD.2 j (q.1, e) hj
  · exact hA _ h
theorem jn_at {ws wc : va_W} {is : List Nat} (h : is.map (fun i => ws[i]?) = wc.map some) (k : Nat) (q : Nat × va_E) (hq : wc[k]? = some q) : ∃ i, is[k]? = some i ∧ ws[i]? = some q := by
  have h1 : (is.map (fun i => ws[i]?))[k]? = some (some q) := by rw [h, List.getElem?_map, hq]; rfl
  rw [List.getElem?_map] at h1
  cases hi : is[k]? with
  | none => rw [hi] at h1; cases h1
  | some i => rw [hi] at h1; exact ⟨i, rfl, Option.some.inj h1⟩
theorem jn_P {ws wc : va_W} {is : List Nat} (h : is.map (fun i => ws[i]?) = wc.map some) (D : va_G) (H : Heap) (hP : va_P D vwCl ws H) : va_P D vwCl wc H := fun k q hq => by
  obtain ⟨i, -, hi⟩ := jn_at h k q hq
  exact hP i q hi
/-- what lies among ws, and is not of wc, is apart from wc -/
theorem jn_apart {ws wc : va_W} {is : List Nat} (h : is.map (fun i => ws[i]?) = wc.map some) {D : va_G} {A : Nat → Prop} {H : Heap} (hP : va_P D vwCl ws H) (hD : va_D A ws) {k : Nat} (hk : k ∉ is) {q : Nat × va_E} (hq : ws[k]? = some q) : q.1 < H.size ∧ ¬ va_A wc H.size q.1 := by
  have hl := (hP k q hq).lt
  refine ⟨hl, fun hA => ?_⟩
  rcases hA with ⟨j, e, hj⟩ | hA
  · obtain ⟨i, h1, h2⟩ := jn_at h j _ hj
    have := hD.1 k i q (q.1, e) hq h2 rfl
    subst this
    exact hk (List.mem_of_getElem? h1)
  · omega
/-- nothing of the callee's cells has changed -/
theorem JN.ro {ws wc : va_W} (is : List Nat) (h : is.map (fun i => ws[i]?) = wc.map some) (hn : va_nd is = true) : JN ws wc wc ws := by
  refine ⟨fun D H hP => jn_P h D H hP, fun A hD => hD.sub is hn h, fun D A H H1 hP hD hk _ hP1 _ => ⟨fun k q hq => ?_, hD⟩⟩
  by_cases hi : k ∈ is
  · obtain ⟨j, hj⟩ := List.getElem?_of_mem hi
    have h1 : (wc.map some)[j]? = some (ws[k]?) := by rw [← h, List.getElem?_map, hj]; rfl
    rw [List.getElem?_map, hq] at h1
    cases hw : wc[j]? with
    | none => rw [hw] at h1; cases h1
    | some q2 =>
      rw [hw] at h1
      have e : q2 = q := by simpa using h1
      subst e
      exact hP1 j q2 hw
  · obtain ⟨g1, g2⟩ := jn_apart h hP hD hi hq
    exact (hP k q hq).kept (hk q.1 g1 g2)
theorem jn_set {is : List Nat} {w1 : va_W} : ∀ (ws : va_W), (∀ k, k ∉ is → ((is.zip w1).foldl (fun a q => a.set q.1 q.2) ws)[k]? = ws[k]?) := by
  induction is generalizing w1 with
  | nil => intro ws k _; rfl
  | cons i is ih =>
    intro ws k hk
    cases w1 with
    | nil => rfl
    | cons x w1 =>
      rw [List.zip_cons_cons, List.foldl_cons, ih _ k (fun h => hk (List.mem_cons_of_mem _ h)), List.getElem?_set_ne (fun e => hk (by rw [← e]; exact List.mem_cons_self))]
theorem JN.up {ws wc w1 ws1 : va_W} (is : List Nat) (h : is.map (fun i => ws[i]?) = wc.map some) (hn : va_nd is = true) (ha : w1.map Prod.fst = wc.map Prod.fst) (h1 : is.map (fun i => ws1[i]?) = w1.map some) (hs : (is.zip w1).foldl (fun a q => a.set q.1 q.2) ws = ws1) : JN ws wc w1 ws1 := by
  refine ⟨fun D H hP => jn_P h D H hP, fun A hD => hD.sub is hn h, fun D A H H1 hP hD hk _ hP1 _ => ?_⟩
  have key : ∀ (k : Nat) (q : Nat × va_E), ws1[k]? = some q → (k ∉ is ∧ ws[k]? = some q) ∨ ∃ (j : Nat) (q0 : Nat × va_E), is[j]? = some k ∧ w1[j]? = some q ∧ ws[k]? = some q0 ∧ q0.1 = q.1 := by
    intro k q hq
    by_cases hi : k ∈ is
    · right
      obtain ⟨j, hj⟩ := List.getElem?_of_mem hi
      have e1 : (w1.map some)[j]? = some (ws1[k]?) := by rw [← h1, List.getElem?_map, hj]; rfl
      have e2 : (wc.map some)[j]? = some (ws[k]?) := by rw [← h, List.getElem?_map, hj]; rfl
      rw [List.getElem?_map, hq] at e1
      rw [List.getElem?_map] at e2
      have e3 : (w1.map Prod.fst)[j]? = (wc.map Prod.fst)[j]? := by rw [ha]
      rw [List.getElem?_map, List.getElem?_map] at e3
      cases hw : w1[j]? with
      | none => rw [hw] at e1; cases e1
      | some a =>
        rw [hw] at e1 e3
        cases hc : wc[j]? with
        | none => rw [hc] at e3; cases e3
        | some b =>
          rw [hc] at e2 e3
          have ea : a = q := by simpa using e1
          subst ea
          have eb : ws[k]? = some b := by simpa using e2.symm
          exact ⟨j, b, hj, hw, eb, (by simpa using e3.symm)⟩
    · left
      refine ⟨hi, ?_⟩
      rw [← hs, jn_set ws k hi] at hq
      exact hq
  refine ⟨fun k q hq => ?_, ⟨fun i j x y hi hj hxy => ?_, fun k q hq => ?_⟩⟩
  · rcases key k q hq with ⟨hi, hw⟩ | ⟨j, q0, -, hw, -, -⟩
    · obtain ⟨g1, g2⟩ := jn_apart h hP hD hi hw
      exact (hP k q hw).kept (hk q.1 g1 g2)
    · exact hP1 j q hw
  · have f : ∀ (k : Nat) (q : Nat × va_E), ws1[k]? = some q → ∃ q0, ws[k]? = some q0 ∧ q0.1 = q.1 := fun k q hq => by
      rcases key k q hq with ⟨-, hw⟩ | ⟨_, q0, -, -, h3, h4⟩
      · exact ⟨q, hw, rfl⟩
      · exact ⟨q0, h3, h4⟩
    obtain ⟨x0, a1, a2⟩ := f i x hi
    obtain ⟨y0, b1, b2⟩ := f j y hj
    exact hD.1 i j x0 y0 a1 b1 (by rw [a2, b2]; exact hxy)
  · rcases key k q hq with ⟨-, hw⟩ | ⟨_, q0, -, -, h3, h4⟩
    · exact hD.2 k q hw
    · rw [← h4]; exact hD.2 k q0 h3
theorem JN.no {ws : va_W} : JN ws [] [] ws := JN.ro [] rfl rfl
section G1
variable {p : Program} {l : Launch} {e : Env} {R : Room} {s : State} {m : MethodId} {args : Array Value} {below : List Frame} {meth : Method} {c : Code} {H : Heap} {locs : List Loc} {cells slots : Nat} {Q : State → Prop}
variable {lvs : List (Nat × Value)} {cc : ByteArray} {pc nL : Nat} {ls : Array Slot} {rest : List Value} {D : va_G} {tys : List (ClassId × FieldType)} {A : Nat → Prop} {a : Nat} {w : va_W} {Ts : List Cond} {own : String}
theorem Cx.x (C : Cx D tys p s m args c cc nL Ts own A) : p.tables.exec = Jvm.exec := C.1
theorem Cx.b (C : Cx D tys p s m args c cc nL Ts own A) : c.code = cc := C.2.1
theorem g_get (C : Cx D tys p s m args c cc nL Ts own A) (hh : HS D A s.heap w H locs) {CN : String} {T : u_T} {N ci index : Nat} (hin : ∀ x ∈ u_ws CN T N, x ∈ Ts) (q0 : Nat) {fs : List Value} (he : w[q0]? = some (a, .inr (ci, fs))) (hc : vwCl[ci]? = some (CN, T, N)) (k : Nat) (hk : k < N) {v : Value} (hv : fs[k]? = some v) (hl : Cond.fieldLink own index (T k).1 (T k).2.1 (T k).2.2.1 ∈ Ts) (hdg : decode cc pc = .ok (.getfield index, 3))
    (kk : W p l e R s m args below meth c H locs cells slots Q (F0 m (pc + 3) ls (v :: rest))) : W p l e R s m args below meth c H locs cells slots Q (F0 m pc ls (.ref a :: rest)) :=
  va_get C.1 C.2.1 C.2.2.2.2.1 hin C.2.2.2.1 C.2.2.2.2.2.1 hh.1 q0 he hc k hk (C.2.2.2.2.1 _ hl) (fun _ h => h) hv hdg kk
theorem g_put (C : Cx D tys p s m args c cc nL Ts own A) (hh : HS D A s.heap w H locs) {CN : String} {T : u_T} {N ci index : Nat} (hin : ∀ x ∈ u_ws CN T N, x ∈ Ts) (ty0 : Nat → FieldType) (hty : ∀ k, k < N → parseFieldDescriptor (T k).2.2.1 = some (ty0 k)) (hnm : ∀ a, a < N → ∀ b, b < N → a ≠ b → (T a).2.1 ≠ (T b).2.1) (q0 : Nat) {fs fs' : List Value} (he : w[q0]? = some (a, .inr (ci, fs))) (hc : vwCl[ci]? = some (CN, T, N)) (k : Nat) (hk : k < N) {v : Value} (hfin : (T k).2.2.2 = false) (hn : narrow (ty0 k) v = v) (hfit : fits (ty0 k) v = true) (hlen : k < fs.length) (hl : Cond.fieldLink own index (T k).1 (T k).2.1 (T k).2.2.1 ∈ Ts) {w' : va_W} (hs : fs.set k v = fs') (hw : w.set q0 (a, .inr (ci, fs')) = w') (hdg : decode cc pc = .ok (.putfield index, 3))
    (kk : ∀ (H1 : Heap) (locs1 : List Loc), HS D A s.heap w' H1 locs1 → W p l e R s m args below meth c H1 locs1 cells slots Q (F0 m (pc + 3) ls rest)) : W p l e R s m args below meth c H locs cells slots Q (F0 m pc ls (v :: .ref a :: rest)) := by
  subst hs; subst hw
  exact va_put C.1 C.2.1 C.2.2.2.2.1 hin ty0 hty hnm C.2.2.2.1 C.2.2.2.2.2.1 hh.1 hh.2.1 hh.2.2 q0 he hc k hk (C.2.2.2.2.1 _ hl) (fun _ h => h) hfin (hty k hk) hn hfit hlen hdg (fun H1 locs1 g1 g2 g3 => kk H1 locs1 ⟨g1, g2, g3⟩)
theorem g_iald (C : Cx D tys p s m args c cc nL Ts own A) (hh : HS D A s.heap w H locs) (q0 t0 : Nat) {cA : ClassId} {n : Nat} {f : Nat → Int32} (ha : w[q0]? = some (a, .inl (cA, n, .inl f))) (ht : tys[t0]? = some (cA, .int)) {i : Int32} (hin : vp_in i n) (hdg : decode cc pc = .ok (.iaload, 1))
    (kk : W p l e R s m args below meth c H locs cells slots Q (F0 m (pc + 1) ls (.int (f i.toNatClampNeg) :: rest))) : W p l e R s m args below meth c H locs cells slots Q (F0 m pc ls (.int i :: .ref a :: rest)) :=
  va_iald C.1 C.2.1 C.2.2.2.2.2.1 hh.1 q0 t0 ha ht hin hdg kk
theorem g_zald (C : Cx D tys p s m args c cc nL Ts own A) (hh : HS D A s.heap w H locs) (q0 t0 : Nat) {cA : ClassId} {n : Nat} {f : Nat → Int32} (ha : w[q0]? = some (a, .inl (cA, n, .inl f))) (ht : tys[t0]? = some (cA, .boolean)) {i : Int32} (hin : vp_in i n) (hdg : decode cc pc = .ok (.baload, 1))
    (kk : W p l e R s m args below meth c H locs cells slots Q (F0 m (pc + 1) ls (.int (f i.toNatClampNeg) :: rest))) : W p l e R s m args below meth c H locs cells slots Q (F0 m pc ls (.int i :: .ref a :: rest)) :=
  va_zald C.1 C.2.1 C.2.2.2.2.2.1 hh.1 q0 t0 ha ht hin hdg kk
theorem g_aald (C : Cx D tys p s m args c cc nL Ts own A) (hh : HS D A s.heap w H locs) (q0 t0 : Nat) {cA : ClassId} {CN : String} {n : Nat} {f : Nat → Option Nat} (ha : w[q0]? = some (a, .inl (cA, n, .inr (.inr (.inr (.inr f)))))) (ht : tys[t0]? = some (cA, .object CN)) {i : Int32} (hin : vp_in i n) {v : Value} (hv : va_rf (f i.toNatClampNeg) = v) (hdg : decode cc pc = .ok (.aaload, 1))
    (kk : W p l e R s m args below meth c H locs cells slots Q (F0 m (pc + 1) ls (v :: rest))) : W p l e R s m args below meth c H locs cells slots Q (F0 m pc ls (.int i :: .ref a :: rest)) := by
  subst hv
  exact va_aldq C.1 C.2.1 C.2.2.2.2.2.1 hh.1 q0 t0 ha ht hin hdg kk
theorem g_alen (C : Cx D tys p s m args c cc nL Ts own A) (hh : HS D A s.heap w H locs) (q0 t0 : Nat) {cA : ClassId} {x : vp_A} (ha : w[q0]? = some (a, .inl (cA, x))) {ty : FieldType} (ht : tys[t0]? = some (cA, ty)) {v : Int32} (hv : Int32.ofNat x.1 = v) (hdg : decode cc pc = .ok (.arraylength, 1))
    (kk : W p l e R s m args below meth c H locs cells slots Q (F0 m (pc + 1) ls (.int v :: rest))) : W p l e R s m args below meth c H locs cells slots Q (F0 m pc ls (.ref a :: rest)) :=
  va_alen C.1 C.2.1 C.2.2.2.2.2.1 hh.1 q0 t0 ha ht hv hdg kk
theorem g_iast (C : Cx D tys p s m args c cc nL Ts own A) (hh : HS D A s.heap w H locs) (q0 t0 : Nat) {cA : ClassId} {n : Nat} {f : Nat → Int32} (ha : w[q0]? = some (a, .inl (cA, n, .inl f))) (ht : tys[t0]? = some (cA, .int)) {i x : Int32} (hin : vp_in i n) {w' : va_W} (hw : w.set q0 (a, .inl (cA, n, .inl (upd f i.toNatClampNeg x))) = w') (hdg : decode cc pc = .ok (.iastore, 1))
    (kk : ∀ (H1 : Heap) (locs1 : List Loc), HS D A s.heap w' H1 locs1 → W p l e R s m args below meth c H1 locs1 cells slots Q (F0 m (pc + 1) ls rest)) : W p l e R s m args below meth c H locs cells slots Q (F0 m pc ls (.int x :: .int i :: .ref a :: rest)) := by
  subst hw
  exact va_iast C.1 C.2.1 C.2.2.2.2.2.1 hh.1 hh.2.1 hh.2.2 q0 t0 ha ht hin hdg (fun H1 locs1 g1 g2 g3 => kk H1 locs1 ⟨g1, g2, g3⟩)
/-- a call that has run: the world behind it -/
theorem g_fin {wc w1 ws1 : va_W} {st0 : List Value} {v : Option Value} {av : Array Value} (C : Cx D tys p s m args c cc nL Ts own A) (hh : HS D A s.heap w H locs) (J : JN w wc w1 ws1) (hr : va_Run p l e R s m args below meth c H locs cells slots 0 0 (F0 m pc ls st0) rest (GQ D v w1 (va_A wc H.size) av) (va_A wc H.size))
    (kk : ∀ (H1 : Heap) (locs1 : List Loc), HS D A s.heap ws1 H1 locs1 → W p l e R s m args below meth c H1 locs1 cells slots Q (F0 m (pc + 3) ls (v.toList ++ rest))) : W p l e R s m args below meth c H locs cells slots Q (F0 m pc ls st0) := by
  intro T hT X
  obtain ⟨v', st₀, t, T', L, h0, X', hL, e1, e2, ⟨hv, hP1, hD1, hz, hk⟩, st⟩ := hr T hT X
  have hv' : v' = v := by injection hv
  subst hv'
  rw [h0] at hz hk
  obtain ⟨hP, hD, hS⟩ := hh
  have hA := C.2.2.2.2.2.2.2
  have hsub : ∀ q, va_A wc H.size q → A q := fun q hq => by
    rcases hq with ⟨k, x, hq⟩ | hq
    · exact (J.2.1 A hD).2 k (q, x) hq
    · exact hA q (Nat.le_trans hS.1 hq)
  obtain ⟨g1, g2⟩ := J.2.2 D A H t.heap hP hD hk (fun q hq => hA q (Nat.le_trans hS.1 hq)) hP1 hD1
  obtain ⟨t2, a1, b1⟩ := kk T'.heap (locs ++ L) ⟨by rw [e1]; exact g1, g2, Nat.le_trans hS.1 (by rw [e1]; exact hz), fun q h1 h2 => by rw [e1, hk q (Nat.lt_of_lt_of_le h1 hS.1) (fun z => h2 (hsub q z))]; exact hS.2.1 q h1 h2, fun q hq => by
      rcases List.mem_append.mp hq with h | h
      · exact hS.2.2 q h
      · exact hsub _ (hL q h)⟩ T' rfl X'
  exact ⟨t2, st t2 a1, b1⟩
theorem g_preP {wc w1 ws1 : va_W} {av : List Value} (C : Cx D tys p s m args c cc nL Ts own A) (hh : HS D A s.heap w H locs) (J : JN w wc w1 ws1) : ∀ U : State, U.heap = H → s.WarmedH U.vm → GP D tys H.size av wc av.toArray U := fun U hU hW =>
  ⟨rfl, by rw [hU], by rw [hU]; exact J.1 D H hh.1, va_K.moved hW.alike C.2.2.2.2.2.1, (J.2.1 A hh.2.1).weaken (fun _ _ _ _ => trivial), NW.warm hW C.2.2.2.2.2.2.1⟩
theorem g_fix (C : Cx D tys p s m args c cc nL Ts own A) : CallFix p m c cc nL s args Ts own := ⟨C.1, C.2.1, C.2.2.1, C.2.2.2.1, C.2.2.2.2.1⟩
/-- invokevirtual -/
theorem g_callV {wc w1 ws1 : va_W} {As : List Value} {v : Option Value} {y : MethodName} {wsy ws' : List Cond} {fr lo fr2 lo2 maxL index b : Nat} {bytes : ByteArray} {ret : Option FieldType} {CN : String} (C : Cx D tys p s m args c cc nL Ts own A) (hR : R = { frames := fr2, cells := R.cells, slots := R.slots, locals := lo2 }) (hcs : cells ≤ R.cells ∧ slots ≤ R.slots) (hh : HS D A s.heap w H locs) (hl : lv_has ls nL lvs) (hM : MC l D tys y wsy fr lo (.ref b :: As) wc v w1) (J : JN w wc w1 ws1)
    (n : Nat) (hG : GoodIn Ts (wsV own index CN y wsy)) (hw : wsy = Cond.code y bytes maxL ret :: ws') (hd : y.cls = CN ∧ y.cls ≠ "java/lang/invoke/MethodHandle" ∧ y.cls ≠ "java/lang/invoke/VarHandle" ∧ (parseMethodDescriptor y.desc).map (fun d => d.parameters.length) = some n) (hRR : fr + 1 ≤ fr2 ∧ 8 + (maxL + 11) + lo ≤ lo2)
    (q0 ci : Nat) {q : vw_C} {fs : List Value} (hc : vwCl[ci]? = some q) (hq : q.1 = CN) (he : w[q0]? = some (b, .inr (ci, fs))) (hn : As.length = n) {st0 : List Value} (hst : st0 = As.reverse ++ .ref b :: rest) (hcat : (rest.map fun v => v.category).sum ≤ 8) (hdg : decode cc pc = .ok (.invokevirtual index, 3))
    (kk : ∀ (H1 : Heap) (locs1 : List Loc), HS D A s.heap ws1 H1 locs1 → W p l e R s m args below meth c H1 locs1 cells slots Q (F0 m (pc + 3) ls (v.toList ++ rest))) : W p l e R s m args below meth c H locs cells slots Q (F0 m pc ls st0) := by
  subst hq
  have hR2 : fr2 = R.frames ∧ lo2 = R.locals := by rw [hR]; exact ⟨rfl, rfl⟩
  obtain ⟨rfl, rfl⟩ := hR2
  exact g_fin C hh J (va_runV (As := As) (rest := rest) (g_fix C) (hM H.size) (cwV n C.2.2.2.2.1 hG hw rfl rfl hd hRR) ⟨GP.blind, va_recv C.2.2.2.2.2.1 hh.1 hc he, g_preP C hh J⟩ rfl hn hl.1 hst (lv_room hcat) hdg hcs) kk
/-- invokestatic, of any class -/
theorem g_callS {wc w1 ws1 : va_W} {As : List Value} {v : Option Value} {y : MethodName} {wsy ws' : List Cond} {fr lo fr2 lo2 maxL index : Nat} {bytes : ByteArray} {ret : Option FieldType} (C : Cx D tys p s m args c cc nL Ts own A) (hR : R = { frames := fr2, cells := R.cells, slots := R.slots, locals := lo2 }) (hcs : cells ≤ R.cells ∧ slots ≤ R.slots) (hh : HS D A s.heap w H locs) (hl : lv_has ls nL lvs) (hM : MC l D tys y wsy fr lo As wc v w1) (J : JN w wc w1 ws1)
    (n : Nat) (hG : GoodIn Ts (va_wsS own index y wsy)) (hw : wsy = Cond.code y bytes maxL ret :: ws') (hd : y.cls ≠ "java/lang/invoke/MethodHandle" ∧ y.cls ≠ "java/lang/invoke/VarHandle" ∧ (parseMethodDescriptor y.desc).map (fun d => d.parameters.length) = some n) (hRR : fr + 1 ≤ fr2 ∧ 8 + (maxL + 11) + lo ≤ lo2)
    (hn : As.length = n) {st0 : List Value} (hst : st0 = As.reverse ++ rest) (hcat : (rest.map fun v => v.category).sum ≤ 8) (hdg : decode cc pc = .ok (.invokestatic index, 3))
    (kk : ∀ (H1 : Heap) (locs1 : List Loc), HS D A s.heap ws1 H1 locs1 → W p l e R s m args below meth c H1 locs1 cells slots Q (F0 m (pc + 3) ls (v.toList ++ rest))) : W p l e R s m args below meth c H locs cells slots Q (F0 m pc ls st0) := by
  have hR2 : fr2 = R.frames ∧ lo2 = R.locals := by rw [hR]; exact ⟨rfl, rfl⟩
  obtain ⟨rfl, rfl⟩ := hR2
  have ok : ∀ w ∈ va_wsS own index y wsy, w.before args s = true := fun w h => C.2.2.2.2.1 w (hG w h).1
  exact g_fin C hh J (va_runS (As := As) (rest := rest) (g_fix C) (hM H.size) ⟨callB_of n C.2.2.2.2.1 (fun w h => hG w (by unfold va_wsS; exact List.mem_append_right _ h)) hw rfl rfl (ok _ (by simp [va_wsS])) (ok _ (by simp [va_wsS])) hd hRR, ok _ (by simp [va_wsS])⟩ ⟨GP.blind, g_preP C hh J⟩ rfl hn hl.1 hst (lv_room hcat) hdg hcs) kk
/-- invokestatic of a nest mate's private method -/
theorem g_callN {wc w1 ws1 : va_W} {As : List Value} {v : Option Value} {y : MethodName} {host : String} {wsy ws' : List Cond} {fr lo fr2 lo2 maxL index : Nat} {bytes : ByteArray} {ret : Option FieldType} (C : Cx D tys p s m args c cc nL Ts own A) (hR : R = { frames := fr2, cells := R.cells, slots := R.slots, locals := lo2 }) (hcs : cells ≤ R.cells ∧ slots ≤ R.slots) (hh : HS D A s.heap w H locs) (hl : lv_has ls nL lvs) (hM : MC l D tys y wsy fr lo As wc v w1) (J : JN w wc w1 ws1)
    (n : Nat) (hG : GoodIn Ts wsy) (hw : wsy = Cond.code y bytes maxL ret :: ws') (hnw : (own, index, y, host) ∈ nw_l) (hini : Cond.initialized y.cls ∈ Ts) (hsta : Cond.static y ∈ Ts) (hd : y.cls ≠ "java/lang/invoke/MethodHandle" ∧ y.cls ≠ "java/lang/invoke/VarHandle" ∧ (parseMethodDescriptor y.desc).map (fun d => d.parameters.length) = some n) (hRR : fr + 1 ≤ fr2 ∧ 8 + (maxL + 11) + lo ≤ lo2)
    (hn : As.length = n) {st0 : List Value} (hst : st0 = As.reverse ++ rest) (hcat : (rest.map fun v => v.category).sum ≤ 8) (hdg : decode cc pc = .ok (.invokestatic index, 3))
    (kk : ∀ (H1 : Heap) (locs1 : List Loc), HS D A s.heap ws1 H1 locs1 → W p l e R s m args below meth c H1 locs1 cells slots Q (F0 m (pc + 3) ls (v.toList ++ rest))) : W p l e R s m args below meth c H locs cells slots Q (F0 m pc ls st0) := by
  have hR2 : fr2 = R.frames ∧ lo2 = R.locals := by rw [hR]; exact ⟨rfl, rfl⟩
  obtain ⟨rfl, rfl⟩ := hR2
  exact g_fin C hh J (va_runSN (As := As) (rest := rest) (g_fix C) (hM H.size) ⟨va_cnB n C.2.2.2.2.1 hG hw rfl rfl (C.2.2.2.2.2.2.1 _ hnw) (C.2.2.2.2.1 _ hini) hd hRR, C.2.2.2.2.1 _ hsta, trivial⟩ ⟨GP.blind, g_preP C hh J⟩ rfl hn hl.1 hst (lv_room hcat) hdg hcs) kk
end G1
/-- a body that ends in GQ: proved for any goal Q that its returns reach -/
theorem MC.of {l : Launch} {D : va_G} {tys : List (ClassId × FieldType)} {y : MethodName} {wsy ws' : List Cond} {fr lo : Nat} {av : List Value} {ws : va_W} {v : Option Value} {w1 : va_W} {cc : ByteArray} {maxL : Nat} {ret : Option FieldType} (own : String) (hown : y.cls = own) (hy : plainName y.cls = true) (hw : wsy = Cond.code y cc maxL ret :: ws') (hn : (lg_sl av).length ≤ maxL)
    (body : ∀ (p : Program) (e : Env) (s : State) (m : MethodId) (args : Array Value) (below : List Frame) (meth : Method) (c : Code) (A : Nat → Prop) (Q : State → Prop),
      Cx D tys p s m args c cc maxL wsy own A →
      (∀ (H : Heap) (locs : List Loc) (w : va_W) (pc : Nat) (ls : Array Slot) (st : List Value), HS D A s.heap w H locs → w = w1 → ((∃ x, st = [.int x] ∧ v = some (.int x) ∧ decode cc pc = .ok (.ireturn, 1) ∧ ((ret = some .int) ∨ (ret = some .boolean ∧ (x = 0 ∨ x = 1)) ∨ (∃ ty, ret = some ty ∧ narrow ty (.int x) = .int x))) ∨ (∃ x, st = [.long x] ∧ v = some (.long x) ∧ decode cc pc = .ok (.lreturn, 1) ∧ ret = some .long) ∨ (st = [] ∧ v = none ∧ decode cc pc = .ok (.return_, 1) ∧ ret = none) ∨ (∃ x rt, st = [x] ∧ v = some x ∧ decode cc pc = .ok (.areturn, 1) ∧ ret = some rt ∧ ((∃ n, rt = .object n) ∨ ∃ t, rt = .array t) ∧ (x = .null ∨ ∃ a, x = .ref a))) →
        W p l e { frames := fr, cells := 0, slots := 0, locals := lo } s m args below meth c H locs 0 0 Q (F0 m pc ls st)) →
      HS D A s.heap ws s.heap [] → ∀ ls : Array Slot, lv_has ls maxL (lv_args 0 av) → W p l e { frames := fr, cells := 0, slots := 0, locals := lo } s m args below meth c s.heap [] 0 0 Q (F0 m 0 ls [])) : MC l D tys y wsy fr lo av ws v w1 := by
  subst hown
  intro sz
  refine Met.ofW (cc := cc) (maxL := maxL) (ret := ret) hy hw ?_
  intro p e s m args below meth c s₁ B hml hv
  obtain ⟨rfl, hsz, hP, hK, hD0, hN⟩ := hv
  have hr := B.returns
  have hlocks := B.notSynchronized
  subst hsz
  have hD := hD0.self (sz := s.heap.size)
  have hl := lv_entry av (n := maxL) hn
  rw [lg_entry_eq]
  refine body p e s m av.toArray below meth c (va_A ws s.heap.size) (MQ below (GQ D v w1 (va_A ws s.heap.size)) av.toArray s 0 0 (va_A ws s.heap.size)) ⟨B.exec, B.bytes, hml, findClass_of_methodNamed B.named, atoms_spec (ws := wsy) B.pre, hK, hN, fun q h => Or.inr h⟩ ?_ ⟨hP, hD, va_S.rf⟩ _ hl
  intro H locs w pc ls st hh ew hcase
  subst ew
  have fin : ∀ t : State, t.heap = H → va_P D vwCl w t.heap ∧ va_D (va_A ws s.heap.size) w ∧ va_F (va_A ws s.heap.size) s t := fun t ht => ⟨by rw [ht]; exact hh.1, hh.2.1, hh.2.2.F ht⟩
  rcases hcase with ⟨x, rfl, hv, hdg, hx⟩ | ⟨x, rfl, hv, hdg, hx⟩ | ⟨rfl, hv, hdg, hx⟩ | ⟨x, rt, rfl, hv, hdg, hx, h1, h2⟩
  · rcases hx with hx | ⟨hx, hz⟩ | ⟨ty, hx, hz⟩
    · exact W.iret (v := x) B.exec B.bytes (hr.trans hx) (fun t ht _ => ⟨by rw [hv], fin t ht⟩) hh.2.2.2.2 hdg hlocks
    · refine W.zret (v := x) (ty := .boolean) B.exec B.bytes (hr.trans hx) ?_ (fun t ht _ => ⟨by rw [hv], fin t ht⟩) hh.2.2.2.2 hdg hlocks
      rcases hz with rfl | rfl <;> rfl
    · exact W.zret (v := x) (ty := ty) B.exec B.bytes (hr.trans hx) hz (fun t ht _ => ⟨by rw [hv], fin t ht⟩) hh.2.2.2.2 hdg hlocks
  · exact W.lret (v := x) B.exec B.bytes (hr.trans hx) (fun t ht _ => ⟨by rw [hv], fin t ht⟩) hh.2.2.2.2 hdg hlocks
  · exact W.vret B.exec B.bytes (hr.trans hx) (fun t ht _ => ⟨by rw [hv], fin t ht⟩) hh.2.2.2.2 hdg hlocks
  · exact W.aret (v := x) (rt := rt) B.exec B.bytes (hr.trans hx) h1 h2 (fun t ht _ => ⟨by rw [hv], fin t ht⟩) hh.2.2.2.2 hdg hlocks
abbrev TY (cI cZ cC cH : ClassId) : List (ClassId × FieldType) := [(cI, .int), (cZ, .boolean), (cC, .object "WrongClocks$Clock"), (cH, .object "WrongClocks$House")]
-- numbers
theorem ti_lt {a b : Int32} : a < b ↔ a.toInt < b.toInt := Int32.lt_iff_toInt_lt
theorem ti_le {a b : Int32} : a ≤ b ↔ a.toInt ≤ b.toInt := Int32.le_iff_toInt_le
theorem ti_add {a b : Int32} (h1 : -2147483648 ≤ a.toInt + b.toInt) (h2 : a.toInt + b.toInt < 2147483648) : (a + b).toInt = a.toInt + b.toInt := by
  rw [Int32.toInt_add]; exact Int.bmod_eq_of_le (by omega) (by omega)
theorem ti_sub {a b : Int32} (h1 : -2147483648 ≤ a.toInt - b.toInt) (h2 : a.toInt - b.toInt < 2147483648) : (a - b).toInt = a.toInt - b.toInt := by
  rw [Int32.toInt_sub]; exact Int.bmod_eq_of_le (by omega) (by omega)
theorem ti_mul {a b : Int32} (h1 : -2147483648 ≤ a.toInt * b.toInt) (h2 : a.toInt * b.toInt < 2147483648) : (a * b).toInt = a.toInt * b.toInt := by
  rw [Int32.toInt_mul]; exact Int.bmod_eq_of_le (by omega) (by omega)
theorem ti_inc {a : Int32} (h2 : a.toInt < 2147483647) : (a + 1).toInt = a.toInt + 1 := by
  have h := Int32.le_toInt a
  have e : (1 : Int32).toInt = 1 := rfl
  rw [ti_add (by rw [e]; omega) (by rw [e]; omega), e]
theorem ti_dec {a : Int32} (h2 : -2147483648 < a.toInt) : (a + (-1)).toInt = a.toInt - 1 := by
  have h := Int32.toInt_lt a
  have e : (-1 : Int32).toInt = -1 := rfl
  rw [ti_add (by rw [e]; omega) (by rw [e]; omega), e]; omega
theorem ix6 {k : Int32} (c : Nat) (h0 : 0 ≤ k.toInt) (h1 : k.toInt < 8) (hc : c < 6) : vp_in (6 * k + nI c) 48 := by
  have e6 : (6 : Int32).toInt = 6 := rfl
  have ec : (nI c).toInt = (c : Int) := nI_toInt (by omega)
  have e1 : (6 * k).toInt = 6 * k.toInt := by rw [ti_mul (by rw [e6]; omega) (by rw [e6]; omega), e6]
  refine vp_in_iff.mpr ?_
  rw [ti_add (by omega) (by omega), e1, ec]
  omega
theorem ix60 {k : Int32} (h0 : 0 ≤ k.toInt) (h1 : k.toInt < 8) : vp_in (6 * k) 48 := by
  have e6 : (6 : Int32).toInt = 6 := rfl
  refine vp_in_iff.mpr ?_
  rw [ti_mul (by rw [e6]; omega) (by rw [e6]; omega), e6]
  omega
theorem sw_ne {x : Int32} {k : Int} {y : Int32} (h : ¬ x = y) (hy : y.toInt = k) : x.toInt ≠ k := fun e => h (Int32.toInt_inj.mp (e.trans hy.symm))
theorem ti_nlt {a b : Int32} (h : ¬ a < b) : b.toInt ≤ a.toInt := Int.not_lt.mp (mt ti_lt.mpr h)
theorem ti_nle {a b : Int32} (h : ¬ a ≤ b) : b.toInt < a.toInt := Int.not_le.mp (mt ti_le.mpr h)
theorem ti_ne {a b : Int32} (h : ¬ a = b) : ¬ a.toInt = b.toInt := mt Int32.toInt_inj.mp h
theorem ti_addc (a c : Int32) (n : Int) (hc : c.toInt = n) (h1 : -2147483648 ≤ a.toInt + n) (h2 : a.toInt + n < 2147483648) : (a + c).toInt = a.toInt + n := by
  subst hc; exact ti_add h1 h2
theorem ti_subc (a c : Int32) (n : Int) (hc : c.toInt = n) (h1 : -2147483648 ≤ a.toInt - n) (h2 : a.toInt - n < 2147483648) : (a - c).toInt = a.toInt - n := by
  subst hc; exact ti_sub h1 h2
theorem ti_mulc (a c : Int32) (n : Int) (hc : c.toInt = n) (h1 : -2147483648 ≤ n * a.toInt) (h2 : n * a.toInt < 2147483648) : (c * a).toInt = n * a.toInt := by
  subst hc; exact ti_mul h1 h2
end
section
abbrev WM (cI cZ cC cH : ClassId) (o a_clock a_note a_text a_read a_fit a_shown a_image a_isKept a_row a_best : Nat) (m_told : Int32) (m_isRead1 : Int32) (m_clock : Nat → Int32) (m_note : Nat → Int32) (m_noted : Int32) (m_bytes : Int32) (m_text : Nat → Int32) (m_position : Int32) (m_tokenAt : Int32) (m_token : Int64) (m_digits : Int32) (m_number : Int32) (m_faultAt : Int32) (m_readMany : Int32) (m_readTold : Int32) (m_read : Nat → Int32) (m_fit : Nat → Int32) (m_shown : Nat → Int32) (m_image : Nat → Int32) (m_isKept : Nat → Int32) (m_row : Nat → Int32) (m_best : Nat → Int32) (m_againAt : Int32) (m_againStep : Int32) (m_orderMany : Int32) (m_orderLeast : Int32) : va_W := [(o, .inr (7, [.int m_told, .int m_isRead1, .ref a_clock, .ref a_note, .int m_noted, .int m_bytes, .ref a_text, .int m_position, .int m_tokenAt, .long m_token, .int m_digits, .int m_number, .int m_faultAt, .int m_readMany, .int m_readTold, .ref a_read, .ref a_fit, .ref a_shown, .ref a_image, .ref a_isKept, .ref a_row, .ref a_best, .int m_againAt, .int m_againStep, .int m_orderMany, .int m_orderLeast])), (a_clock, .inl (cI, 48, .inl m_clock)), (a_note, .inl (cI, 36, .inl m_note)), (a_text, .inl (cI, 200, .inl m_text)), (a_read, .inl (cI, 48, .inl m_read)), (a_fit, .inl (cI, 4320, .inl m_fit)), (a_shown, .inl (cI, 720, .inl m_shown)), (a_image, .inl (cI, 180, .inl m_image)), (a_isKept, .inl (cZ, 2, .inl m_isKept)), (a_row, .inl (cI, 6, .inl m_row)), (a_best, .inl (cI, 6, .inl m_best))]
def F_X7_in (x0 : Int32) (x1 : Int32) (x2 : Int32) : Int32 := (if x0 < x1 then 0 else (if x2 < x0 then 0 else 1))
set_option maxHeartbeats 8000000 in
set_option maxRecDepth 100000 in
theorem c_X7_in (l : Launch) (D : va_G) (cI cZ cC cH : ClassId)  (x0 : Int32) (x1 : Int32) (x2 : Int32)  : MC l D (TY cI cZ cC cH) yX7_in wsX7_in 0 0 [.int x0, .int x1, .int x2] [] (some (.int (F_X7_in x0 x1 x2))) [] := by
  obtain ⟨R, hF⟩ : ∃ R, R = F_X7_in x0 x1 x2 := ⟨_, rfl⟩
  rw [← hF]
  refine MC.of (cc := cX7_in) (maxL := 3) (ret := (some .boolean)) RX7 rfl (by decide +kernel) rfl (Nat.le_of_ble_eq_true rfl) ?_
  intro p e s m args below meth c A Q KX RT hh ls hl
  have z0 : (0 : Int32).toInt = 0 := rfl
  have z1 : (1 : Int32).toInt = 1 := rfl
  have zm : (-1 : Int32).toInt = -1 := rfl
  have hx := KX.1
  have hb := KX.2.1
  have hl : lv_has ls 3 [(0, .int x0), (1, .int x1), (2, .int x2)] := hl
  unfold F_X7_in at hF
  refine lv_iload_n hx hb dX7_in_0 rfl (lv_at hl 0 rfl) ?_
  refine lv_iload_n hx hb dX7_in_1 rfl (lv_at hl 1 rfl) ?_
  refine lv_icmp_lt (tgt := 14) hx hb dX7_in_2 (by decide) (fun c_2 => ?_) (fun c_2 => ?_)
  · replace hF := hF.trans (if_pos c_2)
    have i_2 : x0.toInt < x1.toInt := ti_lt.mp c_2
    refine lv_iconst (v := 0) hx hb dX7_in_14 (by decide) ?_
    exact RT _ _ _ _ _ _ hh (rfl) (Or.inl ⟨_, rfl, by rw [hF], dX7_in_15, Or.inr (Or.inl ⟨rfl, Or.inl rfl⟩)⟩)
  · replace hF := hF.trans (if_neg c_2)
    have i_2 : x1.toInt ≤ x0.toInt := ti_nlt c_2
    refine lv_iload_n hx hb dX7_in_5 rfl (lv_at hl 0 rfl) ?_
    refine lv_iload_n hx hb dX7_in_6 rfl (lv_at hl 2 rfl) ?_
    refine lv_icmp_gt (tgt := 14) hx hb dX7_in_7 (by decide) (fun c_7 => ?_) (fun c_7 => ?_)
    · replace hF := hF.trans (if_pos c_7)
      have i_7 : x2.toInt < x0.toInt := ti_lt.mp c_7
      refine lv_iconst (v := 0) hx hb dX7_in_14 (by decide) ?_
      exact RT _ _ _ _ _ _ hh (rfl) (Or.inl ⟨_, rfl, by rw [hF], dX7_in_15, Or.inr (Or.inl ⟨rfl, Or.inl rfl⟩)⟩)
    · replace hF := hF.trans (if_neg c_7)
      have i_7 : x0.toInt ≤ x2.toInt := ti_nlt c_7
      refine lv_iconst (v := 1) hx hb dX7_in_10 (by decide) ?_
      refine lv_goto (tgt := 15) hx hb dX7_in_11 (by decide) ?_
      exact RT _ _ _ _ _ _ hh (rfl) (Or.inl ⟨_, rfl, by rw [hF], dX7_in_15, Or.inr (Or.inl ⟨rfl, Or.inr rfl⟩)⟩)
theorem z_X7_in (x0 : Int32) (x1 : Int32) (x2 : Int32) : (F_X7_in x0 x1 x2) = 0 ∨ (F_X7_in x0 x1 x2) = 1 := by
  unfold F_X7_in
  repeat' split
  all_goals first | with_reducible assumption | ((try dsimp only); first | with_reducible exact Or.inl rfl | with_reducible exact Or.inr rfl | with_reducible assumption)
def F_X7_has (x0 : Int32) (x1 : Int32) : Int32 := (if ((x0 >>> (x1 &&& 31)) &&& 1) = 1 then 1 else 0)
set_option maxHeartbeats 8000000 in
set_option maxRecDepth 100000 in
theorem c_X7_has (l : Launch) (D : va_G) (cI cZ cC cH : ClassId)  (x0 : Int32) (x1 : Int32)  : MC l D (TY cI cZ cC cH) yX7_has wsX7_has 0 0 [.int x0, .int x1] [] (some (.int (F_X7_has x0 x1))) [] := by
  obtain ⟨R, hF⟩ : ∃ R, R = F_X7_has x0 x1 := ⟨_, rfl⟩
  rw [← hF]
  refine MC.of (cc := cX7_has) (maxL := 2) (ret := (some .boolean)) RX7 rfl (by decide +kernel) rfl (Nat.le_of_ble_eq_true rfl) ?_
  intro p e s m args below meth c A Q KX RT hh ls hl
  have z0 : (0 : Int32).toInt = 0 := rfl
  have z1 : (1 : Int32).toInt = 1 := rfl
  have zm : (-1 : Int32).toInt = -1 := rfl
  have hx := KX.1
  have hb := KX.2.1
  have hl : lv_has ls 2 [(0, .int x0), (1, .int x1)] := hl
  unfold F_X7_has at hF
  refine lv_iload_n hx hb dX7_has_0 rfl (lv_at hl 0 rfl) ?_
  refine lv_iload_n hx hb dX7_has_1 rfl (lv_at hl 1 rfl) ?_
  refine lv_ishr hx hb dX7_has_2 ?_
  refine lv_iconst (v := 1) hx hb dX7_has_3 (by decide) ?_
  refine lv_iand hx hb dX7_has_4 ?_
  refine lv_iconst (v := 1) hx hb dX7_has_5 (by decide) ?_
  refine lv_icmp_ne (tgt := 13) hx hb dX7_has_6 (by decide) (fun c_6 => ?_) (fun c_6 => ?_)
  · replace hF := hF.trans (if_neg c_6)
    have i_6 : ¬ ((x0 >>> (x1 &&& 31)) &&& 1).toInt = 1 := ti_ne c_6
    refine lv_iconst (v := 0) hx hb dX7_has_13 (by decide) ?_
    exact RT _ _ _ _ _ _ hh (rfl) (Or.inl ⟨_, rfl, by rw [hF], dX7_has_14, Or.inr (Or.inl ⟨rfl, Or.inl rfl⟩)⟩)
  · replace hF := hF.trans (if_pos c_6)
    have i_6 : ((x0 >>> (x1 &&& 31)) &&& 1).toInt = 1 := congrArg Int32.toInt c_6
    refine lv_iconst (v := 1) hx hb dX7_has_9 (by decide) ?_
    refine lv_goto (tgt := 14) hx hb dX7_has_10 (by decide) ?_
    exact RT _ _ _ _ _ _ hh (rfl) (Or.inl ⟨_, rfl, by rw [hF], dX7_has_14, Or.inr (Or.inl ⟨rfl, Or.inr rfl⟩)⟩)
theorem z_X7_has (x0 : Int32) (x1 : Int32) : (F_X7_has x0 x1) = 0 ∨ (F_X7_has x0 x1) = 1 := by
  unfold F_X7_has
  repeat' split
  all_goals first | with_reducible assumption | ((try dsimp only); first | with_reducible exact Or.inl rfl | with_reducible exact Or.inr rfl | with_reducible assumption)
def F_X7_bits_4 (x0 : Int32) : Nat → Int32 → Int32 → Int32
  | 0, _, _ => default
  | n + 1, x2_1, x1_2 => (if 8 ≤ x2_1 then x1_2 else ((F_X7_bits_4 x0 n) (x2_1 + 1) (x1_2 + ((x0 >>> (x2_1 &&& 31)) &&& 1))))
def F_X7_bits (x0 : Int32) : Int32 := (F_X7_bits_4 x0 9 0 0)
set_option maxHeartbeats 8000000 in
set_option maxRecDepth 100000 in
theorem c_X7_bits (l : Launch) (D : va_G) (cI cZ cC cH : ClassId)  (x0 : Int32)  : MC l D (TY cI cZ cC cH) yX7_bits wsX7_bits 0 0 [.int x0] [] (some (.int (F_X7_bits x0))) [] := by
  obtain ⟨R, hF⟩ : ∃ R, R = F_X7_bits x0 := ⟨_, rfl⟩
  rw [← hF]
  refine MC.of (cc := cX7_bits) (maxL := 3) (ret := (some .int)) RX7 rfl (by decide +kernel) rfl (Nat.le_of_ble_eq_true rfl) ?_
  intro p e s m args below meth c A Q KX RT hh ls hl
  have z0 : (0 : Int32).toInt = 0 := rfl
  have z1 : (1 : Int32).toInt = 1 := rfl
  have zm : (-1 : Int32).toInt = -1 := rfl
  have hx := KX.1
  have hb := KX.2.1
  have hl : lv_has ls 3 [(0, .int x0)] := hl
  unfold F_X7_bits at hF
  refine lv_iconst (v := 0) hx hb dX7_bits_0 (by decide) ?_
  refine lv_istore_n (lv' := [(1, .int 0), (0, .int x0)]) hx hb dX7_bits_1 rfl hl (Nat.le_of_ble_eq_true rfl) rfl (fun ls hl => ?_)
  refine lv_iconst (v := 0) hx hb dX7_bits_2 (by decide) ?_
  refine lv_istore_n (lv' := [(2, .int 0), (1, .int 0), (0, .int x0)]) hx hb dX7_bits_3 rfl hl (Nat.le_of_ble_eq_true rfl) rfl (fun ls hl => ?_)
  have L_4 : ∀ (n_4 : Nat) (x2_1 : Int32) (x1_2 : Int32) (i0_4 : 0 ≤ x2_1.toInt) (i1_4 : x2_1.toInt ≤ 8) (_ : (8 - x2_1.toInt).toNat < n_4) (_ : R = (F_X7_bits_4 x0) n_4 x2_1 x1_2) (ls : Array Slot) (H : Heap) (locs : List Loc) (_ : HS D A s.heap [] H locs) (_ : lv_has ls 3 [(2, .int x2_1), (1, .int x1_2), (0, .int x0)]), W p l e { frames := 0, cells := 0, slots := 0, locals := 0 } s m args below meth c H locs 0 0 Q (F0 m 4 ls []) := by
    intro n_4
    induction n_4 with
    | zero => intro x2_1 x1_2 i0_4 i1_4 hm; exact absurd hm (Nat.not_lt_zero _)
    | succ n_4 ih_4 =>
      intro x2_1 x1_2 i0_4 i1_4 hm_4 hF ls H locs hh hl
      rw [F_X7_bits_4.eq_2] at hF
      refine lv_iload_n hx hb dX7_bits_4 rfl (lv_at hl 0 rfl) ?_
      refine lv_bipush (v := 8) hx hb dX7_bits_5 (by decide) ?_
      refine lv_icmp_ge (tgt := 24) hx hb dX7_bits_7 (by decide) (fun c_7 => ?_) (fun c_7 => ?_)
      · replace hF := hF.trans (if_pos c_7)
        have i_7 : 8 ≤ x2_1.toInt := ti_le.mp c_7
        refine lv_iload_n hx hb dX7_bits_24 rfl (lv_at hl 1 rfl) ?_
        exact RT _ _ _ _ _ _ hh (rfl) (Or.inl ⟨_, rfl, by rw [hF], dX7_bits_25, Or.inl rfl⟩)
      · replace hF := hF.trans (if_neg c_7)
        have i_7 : x2_1.toInt < 8 := ti_nle c_7
        refine lv_iload_n hx hb dX7_bits_10 rfl (lv_at hl 1 rfl) ?_
        refine lv_iload_n hx hb dX7_bits_11 rfl (lv_at hl 2 rfl) ?_
        refine lv_iload_n hx hb dX7_bits_12 rfl (lv_at hl 0 rfl) ?_
        refine lv_ishr hx hb dX7_bits_13 ?_
        refine lv_iconst (v := 1) hx hb dX7_bits_14 (by decide) ?_
        refine lv_iand hx hb dX7_bits_15 ?_
        refine lv_iadd hx hb dX7_bits_16 ?_
        refine lv_istore_n (lv' := [(1, .int (x1_2 + ((x0 >>> (x2_1 &&& 31)) &&& 1))), (2, .int x2_1), (0, .int x0)]) hx hb dX7_bits_17 rfl hl (Nat.le_of_ble_eq_true rfl) rfl (fun ls hl => ?_)
        refine lv_iinc (v := x2_1 + 1) (lv' := [(2, .int (x2_1 + 1)), (1, .int (x1_2 + ((x0 >>> (x2_1 &&& 31)) &&& 1))), (0, .int x0)]) hx hb dX7_bits_18 hl (k := 1) rfl rfl (Nat.le_of_ble_eq_true rfl) rfl (fun ls hl => ?_)
        refine lv_goto (tgt := 4) hx hb dX7_bits_21 (by decide) ?_
        have e_inc : (x2_1 + 1).toInt = x2_1.toInt + 1 := ti_inc (by omega)
        exact ih_4 (x2_1 + 1) (x1_2 + ((x0 >>> (x2_1 &&& 31)) &&& 1)) (by first | assumption | omega | decide) (by first | assumption | omega | decide) (by first | omega | simp_all) hF _ _ _ hh (lv_sub hl [0, 1, 2] rfl)
  exact L_4 9 0 0 (by first | assumption | omega | decide) (by first | assumption | omega | decide) (by first | omega | decide | (simp; done)) hF _ _ _ hh (lv_sub hl [0, 1, 2] rfl)
theorem X7_in_in {x a b : Int32} (h : ¬ F_X7_in x a b = 0) : a.toInt ≤ x.toInt ∧ x.toInt ≤ b.toInt := by
  unfold F_X7_in at h
  by_cases h1 : x < a
  · simp [h1] at h
  · by_cases h2 : b < x
    · simp [h1, h2] at h
    · exact ⟨ti_nlt h1, ti_nlt h2⟩
def F_X7_isClock (m_told : Int32) (x1 : Int32) : Int32 := (if (F_X7_in x1 0 7) = 0 then 0 else (if (F_X7_has m_told x1) = 0 then 0 else 1))
theorem in_X7_isClock_X7 : ∀ x ∈ u_ws RX7 TX7 26, x ∈ wsX7_isClock := by decide +kernel
set_option maxHeartbeats 8000000 in
set_option maxRecDepth 100000 in
theorem c_X7_isClock (l : Launch) (D : va_G) (cI cZ cC cH : ClassId) (o a_clock a_note a_text a_read a_fit a_shown a_image a_isKept a_row a_best : Nat) (m_told : Int32) (m_isRead1 : Int32) (m_clock : Nat → Int32) (m_note : Nat → Int32) (m_noted : Int32) (m_bytes : Int32) (m_text : Nat → Int32) (m_position : Int32) (m_tokenAt : Int32) (m_token : Int64) (m_digits : Int32) (m_number : Int32) (m_faultAt : Int32) (m_readMany : Int32) (m_readTold : Int32) (m_read : Nat → Int32) (m_fit : Nat → Int32) (m_shown : Nat → Int32) (m_image : Nat → Int32) (m_isKept : Nat → Int32) (m_row : Nat → Int32) (m_best : Nat → Int32) (m_againAt : Int32) (m_againStep : Int32) (m_orderMany : Int32) (m_orderLeast : Int32) (x1 : Int32)  : MC l D (TY cI cZ cC cH) yX7_isClock wsX7_isClock 1 22 [.ref o, .int x1] (WM cI cZ cC cH o a_clock a_note a_text a_read a_fit a_shown a_image a_isKept a_row a_best m_told m_isRead1 m_clock m_note m_noted m_bytes m_text m_position m_tokenAt m_token m_digits m_number m_faultAt m_readMany m_readTold m_read m_fit m_shown m_image m_isKept m_row m_best m_againAt m_againStep m_orderMany m_orderLeast) (some (.int (F_X7_isClock m_told x1))) (WM cI cZ cC cH o a_clock a_note a_text a_read a_fit a_shown a_image a_isKept a_row a_best m_told m_isRead1 m_clock m_note m_noted m_bytes m_text m_position m_tokenAt m_token m_digits m_number m_faultAt m_readMany m_readTold m_read m_fit m_shown m_image m_isKept m_row m_best m_againAt m_againStep m_orderMany m_orderLeast) := by
  obtain ⟨R, hF⟩ : ∃ R, R = F_X7_isClock m_told x1 := ⟨_, rfl⟩
  rw [← hF]
  refine MC.of (cc := cX7_isClock) (maxL := 2) (ret := (some .boolean)) RX7 rfl (by decide +kernel) rfl (Nat.le_of_ble_eq_true rfl) ?_
  intro p e s m args below meth c A Q KX RT hh ls hl
  have z0 : (0 : Int32).toInt = 0 := rfl
  have z1 : (1 : Int32).toInt = 1 := rfl
  have zm : (-1 : Int32).toInt = -1 := rfl
  have hx := KX.1
  have hb := KX.2.1
  have hl : lv_has ls 2 [(0, .ref o), (1, .int x1)] := hl
  unfold F_X7_isClock at hF
  refine lv_iload_n hx hb dX7_isClock_0 rfl (lv_at hl 1 rfl) ?_
  refine lv_iconst (v := 0) hx hb dX7_isClock_1 (by decide) ?_
  refine lv_bipush (v := 7) hx hb dX7_isClock_2 (by decide) ?_
  refine g_callS (As := [.int x1, .int 0, .int 7]) (rest := []) KX rfl ⟨Nat.le_of_ble_eq_true rfl, Nat.le_of_ble_eq_true rfl⟩ hh hl (c_X7_in l D cI cZ cC cH  x1 0 7 ) JN.no 3 gX7_isClock_X7_in rfl (by decide +kernel) ⟨Nat.le_of_ble_eq_true rfl, Nat.le_of_ble_eq_true rfl⟩ rfl rfl (Nat.le_of_ble_eq_true rfl) dX7_isClock_4 (fun H locs hh => ?_)
  refine W.eq (g2 := F0 m 7 ls [.int (F_X7_in x1 0 7)]) rfl ?_
  refine lv_if_eq (tgt := 25) hx hb dX7_isClock_7 (by decide) (fun c_7 => ?_) (fun c_7 => ?_)
  · replace hF := hF.trans (if_pos c_7)
    have i_7 : (F_X7_in x1 0 7).toInt = 0 := congrArg Int32.toInt c_7
    refine lv_iconst (v := 0) hx hb dX7_isClock_25 (by decide) ?_
    exact RT _ _ _ _ _ _ hh (rfl) (Or.inl ⟨_, rfl, by rw [hF], dX7_isClock_26, Or.inr (Or.inl ⟨rfl, Or.inl rfl⟩)⟩)
  · replace hF := hF.trans (if_neg c_7)
    have i_7 : ¬ (F_X7_in x1 0 7).toInt = 0 := ti_ne c_7
    obtain ⟨k0_7, k1_7⟩ : (0 : Int) ≤ x1.toInt ∧ x1.toInt ≤ 7 := X7_in_in c_7
    refine lv_aload_n hx hb dX7_isClock_10 rfl (lv_at hl 0 rfl) ?_
    refine g_get KX hh in_X7_isClock_X7 0 rfl rfl 0 (by decide) rfl (List.mem_of_getElem? (i := 1) rfl) dX7_isClock_11 ?_
    refine lv_iload_n hx hb dX7_isClock_14 rfl (lv_at hl 1 rfl) ?_
    refine g_callS (As := [.int m_told, .int x1]) (rest := []) KX rfl ⟨Nat.le_of_ble_eq_true rfl, Nat.le_of_ble_eq_true rfl⟩ hh hl (c_X7_has l D cI cZ cC cH  m_told x1 ) JN.no 2 gX7_isClock_X7_has rfl (by decide +kernel) ⟨Nat.le_of_ble_eq_true rfl, Nat.le_of_ble_eq_true rfl⟩ rfl rfl (Nat.le_of_ble_eq_true rfl) dX7_isClock_15 (fun H locs hh => ?_)
    refine W.eq (g2 := F0 m 18 ls [.int (F_X7_has m_told x1)]) rfl ?_
    refine lv_if_eq (tgt := 25) hx hb dX7_isClock_18 (by decide) (fun c_18 => ?_) (fun c_18 => ?_)
    · replace hF := hF.trans (if_pos c_18)
      have i_18 : (F_X7_has m_told x1).toInt = 0 := congrArg Int32.toInt c_18
      refine lv_iconst (v := 0) hx hb dX7_isClock_25 (by decide) ?_
      exact RT _ _ _ _ _ _ hh (rfl) (Or.inl ⟨_, rfl, by rw [hF], dX7_isClock_26, Or.inr (Or.inl ⟨rfl, Or.inl rfl⟩)⟩)
    · replace hF := hF.trans (if_neg c_18)
      have i_18 : ¬ (F_X7_has m_told x1).toInt = 0 := ti_ne c_18
      refine lv_iconst (v := 1) hx hb dX7_isClock_21 (by decide) ?_
      refine lv_goto (tgt := 26) hx hb dX7_isClock_22 (by decide) ?_
      exact RT _ _ _ _ _ _ hh (rfl) (Or.inl ⟨_, rfl, by rw [hF], dX7_isClock_26, Or.inr (Or.inl ⟨rfl, Or.inr rfl⟩)⟩)
theorem z_X7_isClock (m_told : Int32) (x1 : Int32) : (F_X7_isClock m_told x1) = 0 ∨ (F_X7_isClock m_told x1) = 1 := by
  unfold F_X7_isClock
  repeat' split
  all_goals first | with_reducible assumption | with_reducible exact z_X7_in _ _ _ | with_reducible exact z_X7_has _ _ | ((try dsimp only); first | with_reducible exact Or.inl rfl | with_reducible exact Or.inr rfl | with_reducible assumption)
theorem X7_isClock_in {t k : Int32} (h : ¬ F_X7_isClock t k = 0) : 0 ≤ k.toInt ∧ k.toInt < 8 := by
  unfold F_X7_isClock at h
  by_cases h1 : F_X7_in k 0 7 = 0
  · simp [h1] at h
  · obtain ⟨a, b⟩ : (0 : Int) ≤ k.toInt ∧ k.toInt ≤ 7 := X7_in_in h1
    omega
def F_X7_write_31 (m_bytes : Int32) (x1 : Int64) (x3 : Int32) : Nat → Int32 → (Nat → Int32) → Int32 × Int32 × (Nat → Int32)
  | 0, _, _ => default
  | n + 1, x4_1, w_m_text_2 => (if x3 ≤ x4_1 then (m_bytes + x3, m_bytes + x3, w_m_text_2) else ((F_X7_write_31 m_bytes x1 x3 n) (x4_1 + 1) (upd w_m_text_2 (m_bytes + x4_1).toNatClampNeg (((x1 >>> ((8 * x4_1).toInt64 &&& 63)) &&& 255).toInt32))))
def F_X7_write (m_bytes : Int32) (m_text : Nat → Int32) (x1 : Int64) (x3 : Int32) : Int32 × Int32 × (Nat → Int32) := (if (F_X7_in x3 1 8) = 0 then ((-3), m_bytes, m_text) else (if (m_bytes + x3) ≤ 200 then (F_X7_write_31 m_bytes x1 x3 9 0 m_text) else ((-5), m_bytes, m_text)))
theorem in_X7_write_X7 : ∀ x ∈ u_ws RX7 TX7 26, x ∈ wsX7_write := by decide +kernel
set_option maxHeartbeats 8000000 in
set_option maxRecDepth 100000 in
theorem c_X7_write (l : Launch) (D : va_G) (cI cZ cC cH : ClassId) (o a_clock a_note a_text a_read a_fit a_shown a_image a_isKept a_row a_best : Nat) (m_told : Int32) (m_isRead1 : Int32) (m_clock : Nat → Int32) (m_note : Nat → Int32) (m_noted : Int32) (m_bytes : Int32) (m_text : Nat → Int32) (m_position : Int32) (m_tokenAt : Int32) (m_token : Int64) (m_digits : Int32) (m_number : Int32) (m_faultAt : Int32) (m_readMany : Int32) (m_readTold : Int32) (m_read : Nat → Int32) (m_fit : Nat → Int32) (m_shown : Nat → Int32) (m_image : Nat → Int32) (m_isKept : Nat → Int32) (m_row : Nat → Int32) (m_best : Nat → Int32) (m_againAt : Int32) (m_againStep : Int32) (m_orderMany : Int32) (m_orderLeast : Int32) (x1 : Int64) (x3 : Int32) (hb0 : 0 ≤ m_bytes.toInt) (hb1 : m_bytes.toInt ≤ 200) : MC l D (TY cI cZ cC cH) yX7_write wsX7_write 1 22 [.ref o, .long x1, .int x3] (WM cI cZ cC cH o a_clock a_note a_text a_read a_fit a_shown a_image a_isKept a_row a_best m_told m_isRead1 m_clock m_note m_noted m_bytes m_text m_position m_tokenAt m_token m_digits m_number m_faultAt m_readMany m_readTold m_read m_fit m_shown m_image m_isKept m_row m_best m_againAt m_againStep m_orderMany m_orderLeast) (some (.int ((F_X7_write m_bytes m_text x1 x3).1))) (WM cI cZ cC cH o a_clock a_note a_text a_read a_fit a_shown a_image a_isKept a_row a_best m_told m_isRead1 m_clock m_note m_noted (F_X7_write m_bytes m_text x1 x3).2.1 (F_X7_write m_bytes m_text x1 x3).2.2 m_position m_tokenAt m_token m_digits m_number m_faultAt m_readMany m_readTold m_read m_fit m_shown m_image m_isKept m_row m_best m_againAt m_againStep m_orderMany m_orderLeast) := by
  obtain ⟨R, hF⟩ : ∃ R, R = F_X7_write m_bytes m_text x1 x3 := ⟨_, rfl⟩
  rw [← hF]
  refine MC.of (cc := cX7_write) (maxL := 5) (ret := (some .int)) RX7 rfl (by decide +kernel) rfl (Nat.le_of_ble_eq_true rfl) ?_
  intro p e s m args below meth c A Q KX RT hh ls hl
  have z0 : (0 : Int32).toInt = 0 := rfl
  have z1 : (1 : Int32).toInt = 1 := rfl
  have zm : (-1 : Int32).toInt = -1 := rfl
  have hx := KX.1
  have hb := KX.2.1
  have hl : lv_has ls 5 [(0, .ref o), (1, .long x1), (3, .int x3)] := hl
  unfold F_X7_write at hF
  refine lv_iload_n hx hb dX7_write_0 rfl (lv_at hl 2 rfl) ?_
  refine lv_iconst (v := 1) hx hb dX7_write_1 (by decide) ?_
  refine lv_bipush (v := 8) hx hb dX7_write_2 (by decide) ?_
  refine g_callS (As := [.int x3, .int 1, .int 8]) (rest := []) KX rfl ⟨Nat.le_of_ble_eq_true rfl, Nat.le_of_ble_eq_true rfl⟩ hh hl (c_X7_in l D cI cZ cC cH  x3 1 8 ) JN.no 3 gX7_write_X7_in rfl (by decide +kernel) ⟨Nat.le_of_ble_eq_true rfl, Nat.le_of_ble_eq_true rfl⟩ rfl rfl (Nat.le_of_ble_eq_true rfl) dX7_write_4 (fun H locs hh => ?_)
  refine W.eq (g2 := F0 m 7 ls [.int (F_X7_in x3 1 8)]) rfl ?_
  refine lv_if_ne (tgt := 13) hx hb dX7_write_7 (by decide) (fun c_7 => ?_) (fun c_7 => ?_)
  · replace hF := hF.trans (if_neg c_7)
    have i_7 : ¬ (F_X7_in x3 1 8).toInt = 0 := ti_ne c_7
    obtain ⟨k0_7, k1_7⟩ : (1 : Int) ≤ x3.toInt ∧ x3.toInt ≤ 8 := X7_in_in c_7
    refine lv_aload_n hx hb dX7_write_13 rfl (lv_at hl 0 rfl) ?_
    refine g_get KX hh in_X7_write_X7 0 rfl rfl 5 (by decide) rfl (List.mem_of_getElem? (i := 1) rfl) dX7_write_14 ?_
    refine lv_iload_n hx hb dX7_write_17 rfl (lv_at hl 2 rfl) ?_
    refine lv_iadd hx hb dX7_write_18 ?_
    refine lv_sipush (v := 200) hx hb dX7_write_19 (by decide) ?_
    refine lv_icmp_le (tgt := 28) hx hb dX7_write_22 (by decide) (fun c_22 => ?_) (fun c_22 => ?_)
    · replace hF := hF.trans (if_pos c_22)
      have i_22 : (m_bytes + x3).toInt ≤ 200 := ti_le.mp c_22
      refine lv_iconst (v := 0) hx hb dX7_write_28 (by decide) ?_
      refine lv_istore (lv' := [(4, .int 0), (0, .ref o), (1, .long x1), (3, .int x3)]) hx hb dX7_write_29 hl (Nat.le_of_ble_eq_true rfl) rfl (fun ls hl => ?_)
      have L_31 : ∀ (n_31 : Nat) (x4_1 : Int32) (w_m_text_2 : Nat → Int32) (i0_31 : 0 ≤ x4_1.toInt) (i1_31 : x4_1.toInt ≤ x3.toInt) (_ : (x3.toInt - x4_1.toInt).toNat < n_31) (_ : R = (F_X7_write_31 m_bytes x1 x3) n_31 x4_1 w_m_text_2) (ls : Array Slot) (H : Heap) (locs : List Loc) (_ : HS D A s.heap (WM cI cZ cC cH o a_clock a_note a_text a_read a_fit a_shown a_image a_isKept a_row a_best m_told m_isRead1 m_clock m_note m_noted m_bytes w_m_text_2 m_position m_tokenAt m_token m_digits m_number m_faultAt m_readMany m_readTold m_read m_fit m_shown m_image m_isKept m_row m_best m_againAt m_againStep m_orderMany m_orderLeast) H locs) (_ : lv_has ls 5 [(4, .int x4_1), (0, .ref o), (1, .long x1), (3, .int x3)]), W p l e { frames := 1, cells := 0, slots := 0, locals := 22 } s m args below meth c H locs 0 0 Q (F0 m 31 ls []) := by
        intro n_31
        induction n_31 with
        | zero => intro x4_1 w_m_text_2 i0_31 i1_31 hm; exact absurd hm (Nat.not_lt_zero _)
        | succ n_31 ih_31 =>
          intro x4_1 w_m_text_2 i0_31 i1_31 hm_31 hF ls H locs hh hl
          rw [F_X7_write_31.eq_2] at hF
          have hsum : (m_bytes + x3).toInt = m_bytes.toInt + x3.toInt := ti_add (by omega) (by omega)
          refine lv_iload hx hb dX7_write_31 (lv_at hl 0 rfl) ?_
          refine lv_iload_n hx hb dX7_write_33 rfl (lv_at hl 3 rfl) ?_
          refine lv_icmp_ge (tgt := 67) hx hb dX7_write_34 (by decide) (fun c_34 => ?_) (fun c_34 => ?_)
          · replace hF := hF.trans (if_pos c_34)
            have i_34 : x3.toInt ≤ x4_1.toInt := ti_le.mp c_34
            refine lv_aload_n hx hb dX7_write_67 rfl (lv_at hl 1 rfl) ?_
            refine lv_dup hx hb dX7_write_68 rfl ?_
            refine g_get KX hh in_X7_write_X7 0 rfl rfl 5 (by decide) rfl (List.mem_of_getElem? (i := 1) rfl) dX7_write_69 ?_
            refine lv_iload_n hx hb dX7_write_72 rfl (lv_at hl 3 rfl) ?_
            refine lv_iadd hx hb dX7_write_73 ?_
            refine g_put KX hh in_X7_write_X7 tyX7 tyX7_ok nmX7 0 rfl rfl 5 (by decide) rfl rfl rfl (Nat.le_of_ble_eq_true rfl) (List.mem_of_getElem? (i := 1) rfl) (w' := (WM cI cZ cC cH o a_clock a_note a_text a_read a_fit a_shown a_image a_isKept a_row a_best m_told m_isRead1 m_clock m_note m_noted (m_bytes + x3) w_m_text_2 m_position m_tokenAt m_token m_digits m_number m_faultAt m_readMany m_readTold m_read m_fit m_shown m_image m_isKept m_row m_best m_againAt m_againStep m_orderMany m_orderLeast)) rfl rfl dX7_write_74 (fun H locs hh => ?_)
            refine lv_aload_n hx hb dX7_write_77 rfl (lv_at hl 1 rfl) ?_
            refine g_get KX hh in_X7_write_X7 0 rfl rfl 5 (by decide) rfl (List.mem_of_getElem? (i := 1) rfl) dX7_write_78 ?_
            exact RT _ _ _ _ _ _ hh (by rw [hF]) (Or.inl ⟨_, rfl, by rw [hF], dX7_write_81, Or.inl rfl⟩)
          · replace hF := hF.trans (if_neg c_34)
            have i_34 : x4_1.toInt < x3.toInt := ti_nle c_34
            refine lv_aload_n hx hb dX7_write_37 rfl (lv_at hl 1 rfl) ?_
            refine g_get KX hh in_X7_write_X7 0 rfl rfl 6 (by decide) rfl (List.mem_of_getElem? (i := 2) rfl) dX7_write_38 ?_
            refine lv_aload_n hx hb dX7_write_41 rfl (lv_at hl 1 rfl) ?_
            refine g_get KX hh in_X7_write_X7 0 rfl rfl 5 (by decide) rfl (List.mem_of_getElem? (i := 1) rfl) dX7_write_42 ?_
            refine lv_iload hx hb dX7_write_45 (lv_at hl 0 rfl) ?_
            refine lv_iadd hx hb dX7_write_47 ?_
            refine lv_lload_n hx hb dX7_write_48 rfl (lv_at hl 2 rfl) ?_
            refine lv_bipush (v := 8) hx hb dX7_write_49 (by decide) ?_
            refine lv_iload hx hb dX7_write_51 (lv_at hl 0 rfl) ?_
            refine lv_imul hx hb dX7_write_53 ?_
            refine lv_lshr hx hb dX7_write_54 rfl ?_
            refine lv_ldc2 (v := 255) hx hb KX.2.2.2.1 (KX.2.2.2.2.1 _ (List.mem_of_getElem? (i := 3) rfl)) dX7_write_55 ?_
            refine lv_land hx hb dX7_write_58 ?_
            refine lv_l2i hx hb dX7_write_59 rfl ?_
            refine g_iast KX hh 3 0 rfl rfl (vp_in_iff.mpr (by have := ti_add (a := m_bytes) (b := x4_1) (by omega) (by omega); omega)) (w' := (WM cI cZ cC cH o a_clock a_note a_text a_read a_fit a_shown a_image a_isKept a_row a_best m_told m_isRead1 m_clock m_note m_noted m_bytes (upd w_m_text_2 (m_bytes + x4_1).toNatClampNeg (((x1 >>> ((8 * x4_1).toInt64 &&& 63)) &&& 255).toInt32)) m_position m_tokenAt m_token m_digits m_number m_faultAt m_readMany m_readTold m_read m_fit m_shown m_image m_isKept m_row m_best m_againAt m_againStep m_orderMany m_orderLeast)) rfl dX7_write_60 (fun H locs hh => ?_)
            refine lv_iinc (v := x4_1 + 1) (lv' := [(4, .int (x4_1 + 1)), (0, .ref o), (1, .long x1), (3, .int x3)]) hx hb dX7_write_61 hl (k := 0) rfl rfl (Nat.le_of_ble_eq_true rfl) rfl (fun ls hl => ?_)
            refine lv_goto (tgt := 31) hx hb dX7_write_64 (by decide) ?_
            have e_inc : (x4_1 + 1).toInt = _ := ti_inc (by omega)
            exact ih_31 (x4_1 + 1) (upd w_m_text_2 (m_bytes + x4_1).toNatClampNeg (((x1 >>> ((8 * x4_1).toInt64 &&& 63)) &&& 255).toInt32)) (by first | assumption | omega | decide) (by first | assumption | omega | decide) (by first | omega | simp_all) hF _ _ _ hh (lv_sub hl [0, 1, 2, 3] rfl)
      exact L_31 9 0 m_text (by first | assumption | omega | decide) (by first | assumption | omega | decide) (by first | omega | decide | (simp; done)) hF _ _ _ hh (lv_sub hl [0, 1, 2, 3] rfl)
    · replace hF := hF.trans (if_neg c_22)
      have i_22 : 200 < (m_bytes + x3).toInt := ti_nle c_22
      refine lv_bipush (v := (-5)) hx hb dX7_write_25 (by decide) ?_
      exact RT _ _ _ _ _ _ hh (by rw [hF]) (Or.inl ⟨_, rfl, by rw [hF], dX7_write_27, Or.inl rfl⟩)
  · replace hF := hF.trans (if_pos c_7)
    have i_7 : (F_X7_in x3 1 8).toInt = 0 := congrArg Int32.toInt c_7
    refine lv_bipush (v := (-3)) hx hb dX7_write_10 (by decide) ?_
    exact RT _ _ _ _ _ _ hh (by rw [hF]) (Or.inl ⟨_, rfl, by rw [hF], dX7_write_12, Or.inl rfl⟩)
def F_X7_erase (m_bytes : Int32) : Int32 × Int32 := (m_bytes, 0)
theorem in_X7_erase_X7 : ∀ x ∈ u_ws RX7 TX7 26, x ∈ wsX7_erase := by decide +kernel
set_option maxHeartbeats 8000000 in
set_option maxRecDepth 100000 in
theorem c_X7_erase (l : Launch) (D : va_G) (cI cZ cC cH : ClassId) (o a_clock a_note a_text a_read a_fit a_shown a_image a_isKept a_row a_best : Nat) (m_told : Int32) (m_isRead1 : Int32) (m_clock : Nat → Int32) (m_note : Nat → Int32) (m_noted : Int32) (m_bytes : Int32) (m_text : Nat → Int32) (m_position : Int32) (m_tokenAt : Int32) (m_token : Int64) (m_digits : Int32) (m_number : Int32) (m_faultAt : Int32) (m_readMany : Int32) (m_readTold : Int32) (m_read : Nat → Int32) (m_fit : Nat → Int32) (m_shown : Nat → Int32) (m_image : Nat → Int32) (m_isKept : Nat → Int32) (m_row : Nat → Int32) (m_best : Nat → Int32) (m_againAt : Int32) (m_againStep : Int32) (m_orderMany : Int32) (m_orderLeast : Int32)   : MC l D (TY cI cZ cC cH) yX7_erase wsX7_erase 0 0 [.ref o] (WM cI cZ cC cH o a_clock a_note a_text a_read a_fit a_shown a_image a_isKept a_row a_best m_told m_isRead1 m_clock m_note m_noted m_bytes m_text m_position m_tokenAt m_token m_digits m_number m_faultAt m_readMany m_readTold m_read m_fit m_shown m_image m_isKept m_row m_best m_againAt m_againStep m_orderMany m_orderLeast) (some (.int ((F_X7_erase m_bytes).1))) (WM cI cZ cC cH o a_clock a_note a_text a_read a_fit a_shown a_image a_isKept a_row a_best m_told m_isRead1 m_clock m_note m_noted (F_X7_erase m_bytes).2 m_text m_position m_tokenAt m_token m_digits m_number m_faultAt m_readMany m_readTold m_read m_fit m_shown m_image m_isKept m_row m_best m_againAt m_againStep m_orderMany m_orderLeast) := by
  obtain ⟨R, hF⟩ : ∃ R, R = F_X7_erase m_bytes := ⟨_, rfl⟩
  rw [← hF]
  refine MC.of (cc := cX7_erase) (maxL := 2) (ret := (some .int)) RX7 rfl (by decide +kernel) rfl (Nat.le_of_ble_eq_true rfl) ?_
  intro p e s m args below meth c A Q KX RT hh ls hl
  have z0 : (0 : Int32).toInt = 0 := rfl
  have z1 : (1 : Int32).toInt = 1 := rfl
  have zm : (-1 : Int32).toInt = -1 := rfl
  have hx := KX.1
  have hb := KX.2.1
  have hl : lv_has ls 2 [(0, .ref o)] := hl
  unfold F_X7_erase at hF
  refine lv_aload_n hx hb dX7_erase_0 rfl (lv_at hl 0 rfl) ?_
  refine g_get KX hh in_X7_erase_X7 0 rfl rfl 5 (by decide) rfl (List.mem_of_getElem? (i := 1) rfl) dX7_erase_1 ?_
  refine lv_istore_n (lv' := [(1, .int m_bytes), (0, .ref o)]) hx hb dX7_erase_4 rfl hl (Nat.le_of_ble_eq_true rfl) rfl (fun ls hl => ?_)
  refine lv_aload_n hx hb dX7_erase_5 rfl (lv_at hl 1 rfl) ?_
  refine lv_iconst (v := 0) hx hb dX7_erase_6 (by decide) ?_
  refine g_put KX hh in_X7_erase_X7 tyX7 tyX7_ok nmX7 0 rfl rfl 5 (by decide) rfl rfl rfl (Nat.le_of_ble_eq_true rfl) (List.mem_of_getElem? (i := 1) rfl) (w' := (WM cI cZ cC cH o a_clock a_note a_text a_read a_fit a_shown a_image a_isKept a_row a_best m_told m_isRead1 m_clock m_note m_noted 0 m_text m_position m_tokenAt m_token m_digits m_number m_faultAt m_readMany m_readTold m_read m_fit m_shown m_image m_isKept m_row m_best m_againAt m_againStep m_orderMany m_orderLeast)) rfl rfl dX7_erase_7 (fun H locs hh => ?_)
  refine lv_iload_n hx hb dX7_erase_10 rfl (lv_at hl 0 rfl) ?_
  exact RT _ _ _ _ _ _ hh (by rw [hF]) (Or.inl ⟨_, rfl, by rw [hF], dX7_erase_11, Or.inl rfl⟩)
def PosOk (b p : Int32) : Prop := 0 ≤ p.toInt ∧ p.toInt ≤ b.toInt ∧ b.toInt ≤ 200
def F_X7_nextToken_333 (w_m_position_1 : Int32) (w_m_position_2 : Int32) (w_m_digits_3 : Int32) (w_m_number_4 : Int32)  : Int32 × Int32 × Int64 × Int32 × Int32 := (if w_m_digits_3 ≤ 4 then (w_m_position_2, w_m_position_1, (-1), w_m_digits_3, w_m_number_4) else (w_m_position_2, w_m_position_1, (-4), w_m_digits_3, w_m_number_4))
def F_X7_nextToken_307 (w_m_position_2 : Int32) (w_m_digits_3 : Int32) (k_241 : Int32 → Int32 → Int32 → Int32 × Int32 × Int64 × Int32 × Int32) (y0_5 : Int32) : Int32 × Int32 × Int64 × Int32 × Int32 := (k_241 (w_m_position_2 + 1) (w_m_digits_3 + 1) y0_5)
def F_X7_nextToken_241 (m_bytes : Int32) (m_text : Nat → Int32) (w_m_position_1 : Int32) : Nat → Int32 → Int32 → Int32 → Int32 × Int32 × Int64 × Int32 × Int32
  | 0, _, _, _ => default
  | n + 1, w_m_position_2, w_m_digits_3, w_m_number_4 => (if m_bytes ≤ w_m_position_2 then F_X7_nextToken_333 w_m_position_1 w_m_position_2 w_m_digits_3 w_m_number_4 else (if (F_X7_in (m_text w_m_position_2.toNatClampNeg) 48 57) = 0 then F_X7_nextToken_333 w_m_position_1 w_m_position_2 w_m_digits_3 w_m_number_4 else (if 4 ≤ w_m_digits_3 then (F_X7_nextToken_307 w_m_position_2 w_m_digits_3 (F_X7_nextToken_241 m_bytes m_text w_m_position_1 n) w_m_number_4) else (F_X7_nextToken_307 w_m_position_2 w_m_digits_3 (F_X7_nextToken_241 m_bytes m_text w_m_position_1 n) (((10 * w_m_number_4) + (m_text w_m_position_2.toNatClampNeg)) - 48)))))
def F_X7_nextToken_191 (w_m_position_1 : Int32) (w_m_position_6 : Int32) (w_m_token_7 : Int64)  : Int32 × Int32 × Int64 × Int32 × Int32 := (if (w_m_position_6 - w_m_position_1) ≤ 9 then (w_m_position_6, w_m_position_1, w_m_token_7, 0, 0) else (w_m_position_6, w_m_position_1, (-4), 0, 0))
def F_X7_nextToken_175 (w_m_position_6 : Int32) (k_101 : Int32 → Int64 → Int32 × Int32 × Int64 × Int32 × Int32) (y0_8 : Int64) : Int32 × Int32 × Int64 × Int32 × Int32 := (k_101 (w_m_position_6 + 1) y0_8)
def F_X7_nextToken_101 (m_bytes : Int32) (m_text : Nat → Int32) (w_m_position_1 : Int32) : Nat → Int32 → Int64 → Int32 × Int32 × Int64 × Int32 × Int32
  | 0, _, _ => default
  | n + 1, w_m_position_6, w_m_token_7 => (if m_bytes ≤ w_m_position_6 then F_X7_nextToken_191 w_m_position_1 w_m_position_6 w_m_token_7 else (if (F_X7_in (m_text w_m_position_6.toNatClampNeg) 97 122) = 0 then F_X7_nextToken_191 w_m_position_1 w_m_position_6 w_m_token_7 else (if 9 ≤ (w_m_position_6 - w_m_position_1) then (F_X7_nextToken_175 w_m_position_6 (F_X7_nextToken_101 m_bytes m_text w_m_position_1 n) (-4)) else (F_X7_nextToken_175 w_m_position_6 (F_X7_nextToken_101 m_bytes m_text w_m_position_1 n) (((27 * w_m_token_7) + ((m_text w_m_position_6.toNatClampNeg).toInt64)) - 96)))))
def F_X7_nextToken_38 (m_bytes : Int32) (m_text : Nat → Int32) (w_m_position_1 : Int32)  : Int32 × Int32 × Int64 × Int32 × Int32 := (if w_m_position_1 = m_bytes then (w_m_position_1, w_m_position_1, (-2), 0, 0) else (if (F_X7_in (m_text w_m_position_1.toNatClampNeg) 97 122) = 0 then (if (F_X7_in (m_text w_m_position_1.toNatClampNeg) 48 57) = 0 then (if (m_text w_m_position_1.toNatClampNeg) = 59 then (w_m_position_1 + 1, w_m_position_1, (-3), 0, 0) else (w_m_position_1 + 1, w_m_position_1, (-4), 0, 0)) else (F_X7_nextToken_241 m_bytes m_text w_m_position_1 201 w_m_position_1 0 0)) else (F_X7_nextToken_101 m_bytes m_text w_m_position_1 201 w_m_position_1 0)))
def F_X7_nextToken_0 (m_bytes : Int32) (m_text : Nat → Int32) : Nat → Int32 → Int32 × Int32 × Int64 × Int32 × Int32
  | 0, _ => default
  | n + 1, w_m_position_1 => (if m_bytes ≤ w_m_position_1 then F_X7_nextToken_38 m_bytes m_text w_m_position_1 else (if (m_text w_m_position_1.toNatClampNeg) = 32 then ((F_X7_nextToken_0 m_bytes m_text n) (w_m_position_1 + 1)) else F_X7_nextToken_38 m_bytes m_text w_m_position_1))
def F_X7_nextToken (m_bytes : Int32) (m_text : Nat → Int32) (m_position : Int32) : Int32 × Int32 × Int64 × Int32 × Int32 := (F_X7_nextToken_0 m_bytes m_text 201 m_position)
theorem in_X7_nextToken_X7 : ∀ x ∈ u_ws RX7 TX7 26, x ∈ wsX7_nextToken := by decide +kernel
set_option maxHeartbeats 8000000 in
set_option maxRecDepth 100000 in
theorem c_X7_nextToken (l : Launch) (D : va_G) (cI cZ cC cH : ClassId) (o a_clock a_note a_text a_read a_fit a_shown a_image a_isKept a_row a_best : Nat) (m_told : Int32) (m_isRead1 : Int32) (m_clock : Nat → Int32) (m_note : Nat → Int32) (m_noted : Int32) (m_bytes : Int32) (m_text : Nat → Int32) (m_position : Int32) (m_tokenAt : Int32) (m_token : Int64) (m_digits : Int32) (m_number : Int32) (m_faultAt : Int32) (m_readMany : Int32) (m_readTold : Int32) (m_read : Nat → Int32) (m_fit : Nat → Int32) (m_shown : Nat → Int32) (m_image : Nat → Int32) (m_isKept : Nat → Int32) (m_row : Nat → Int32) (m_best : Nat → Int32) (m_againAt : Int32) (m_againStep : Int32) (m_orderMany : Int32) (m_orderLeast : Int32)  (hpos : PosOk m_bytes m_position) : MC l D (TY cI cZ cC cH) yX7_nextToken wsX7_nextToken 1 22 [.ref o] (WM cI cZ cC cH o a_clock a_note a_text a_read a_fit a_shown a_image a_isKept a_row a_best m_told m_isRead1 m_clock m_note m_noted m_bytes m_text m_position m_tokenAt m_token m_digits m_number m_faultAt m_readMany m_readTold m_read m_fit m_shown m_image m_isKept m_row m_best m_againAt m_againStep m_orderMany m_orderLeast) (none) (WM cI cZ cC cH o a_clock a_note a_text a_read a_fit a_shown a_image a_isKept a_row a_best m_told m_isRead1 m_clock m_note m_noted m_bytes m_text (F_X7_nextToken m_bytes m_text m_position).1 (F_X7_nextToken m_bytes m_text m_position).2.1 (F_X7_nextToken m_bytes m_text m_position).2.2.1 (F_X7_nextToken m_bytes m_text m_position).2.2.2.1 (F_X7_nextToken m_bytes m_text m_position).2.2.2.2 m_faultAt m_readMany m_readTold m_read m_fit m_shown m_image m_isKept m_row m_best m_againAt m_againStep m_orderMany m_orderLeast) := by
  obtain ⟨R, hF⟩ : ∃ R, R = F_X7_nextToken m_bytes m_text m_position := ⟨_, rfl⟩
  rw [← hF]
  refine MC.of (cc := cX7_nextToken) (maxL := 1) (ret := none) RX7 rfl (by decide +kernel) rfl (Nat.le_of_ble_eq_true rfl) ?_
  intro p e s m args below meth c A Q KX RT hh ls hl
  have z0 : (0 : Int32).toInt = 0 := rfl
  have z1 : (1 : Int32).toInt = 1 := rfl
  have zm : (-1 : Int32).toInt = -1 := rfl
  have hx := KX.1
  have hb := KX.2.1
  have hl : lv_has ls 1 [(0, .ref o)] := hl
  unfold F_X7_nextToken at hF
  obtain ⟨hp0, hp1, hb2⟩ := hpos
  have L_0 : ∀ (n_0 : Nat) (w_m_position_1 : Int32) (p0_0 : 0 ≤ w_m_position_1.toInt) (p1_0 : w_m_position_1.toInt ≤ m_bytes.toInt) (_ : (m_bytes.toInt - w_m_position_1.toInt).toNat < n_0) (_ : R = (F_X7_nextToken_0 m_bytes m_text) n_0 w_m_position_1) (ls : Array Slot) (H : Heap) (locs : List Loc) (_ : HS D A s.heap (WM cI cZ cC cH o a_clock a_note a_text a_read a_fit a_shown a_image a_isKept a_row a_best m_told m_isRead1 m_clock m_note m_noted m_bytes m_text w_m_position_1 m_tokenAt m_token m_digits m_number m_faultAt m_readMany m_readTold m_read m_fit m_shown m_image m_isKept m_row m_best m_againAt m_againStep m_orderMany m_orderLeast) H locs) (_ : lv_has ls 1 [(0, .ref o)]), W p l e { frames := 1, cells := 0, slots := 0, locals := 22 } s m args below meth c H locs 0 0 Q (F0 m 0 ls []) := by
    intro n_0
    induction n_0 with
    | zero => intro w_m_position_1 p0_0 p1_0 hm; exact absurd hm (Nat.not_lt_zero _)
    | succ n_0 ih_0 =>
      intro w_m_position_1 p0_0 p1_0 hm_0 hF ls H locs hh hl
      rw [F_X7_nextToken_0.eq_2] at hF
      refine lv_aload_n hx hb dX7_nextToken_0 rfl (lv_at hl 0 rfl) ?_
      refine g_get KX hh in_X7_nextToken_X7 0 rfl rfl 7 (by decide) rfl (List.mem_of_getElem? (i := 1) rfl) dX7_nextToken_1 ?_
      refine lv_aload_n hx hb dX7_nextToken_4 rfl (lv_at hl 0 rfl) ?_
      refine g_get KX hh in_X7_nextToken_X7 0 rfl rfl 5 (by decide) rfl (List.mem_of_getElem? (i := 2) rfl) dX7_nextToken_5 ?_
      have K_38 : ∀ (_ : R = (F_X7_nextToken_38 m_bytes m_text w_m_position_1)) (ls : Array Slot) (H : Heap) (locs : List Loc) (_ : HS D A s.heap (WM cI cZ cC cH o a_clock a_note a_text a_read a_fit a_shown a_image a_isKept a_row a_best m_told m_isRead1 m_clock m_note m_noted m_bytes m_text w_m_position_1 m_tokenAt m_token m_digits m_number m_faultAt m_readMany m_readTold m_read m_fit m_shown m_image m_isKept m_row m_best m_againAt m_againStep m_orderMany m_orderLeast) H locs) (_ : lv_has ls 1 [(0, .ref o)]), W p l e { frames := 1, cells := 0, slots := 0, locals := 22 } s m args below meth c H locs 0 0 Q (F0 m 38 ls []) := by
        intro  hF ls H locs hh hl
        unfold F_X7_nextToken_38 at hF
        refine lv_aload_n hx hb dX7_nextToken_38 rfl (lv_at hl 0 rfl) ?_
        refine lv_aload_n hx hb dX7_nextToken_39 rfl (lv_at hl 0 rfl) ?_
        refine g_get KX hh in_X7_nextToken_X7 0 rfl rfl 7 (by decide) rfl (List.mem_of_getElem? (i := 1) rfl) dX7_nextToken_40 ?_
        refine g_put KX hh in_X7_nextToken_X7 tyX7 tyX7_ok nmX7 0 rfl rfl 8 (by decide) rfl rfl rfl (Nat.le_of_ble_eq_true rfl) (List.mem_of_getElem? (i := 4) rfl) (w' := (WM cI cZ cC cH o a_clock a_note a_text a_read a_fit a_shown a_image a_isKept a_row a_best m_told m_isRead1 m_clock m_note m_noted m_bytes m_text w_m_position_1 w_m_position_1 m_token m_digits m_number m_faultAt m_readMany m_readTold m_read m_fit m_shown m_image m_isKept m_row m_best m_againAt m_againStep m_orderMany m_orderLeast)) rfl rfl dX7_nextToken_43 (fun H locs hh => ?_)
        refine lv_aload_n hx hb dX7_nextToken_46 rfl (lv_at hl 0 rfl) ?_
        refine lv_iconst (v := 0) hx hb dX7_nextToken_47 (by decide) ?_
        refine g_put KX hh in_X7_nextToken_X7 tyX7 tyX7_ok nmX7 0 rfl rfl 10 (by decide) rfl rfl rfl (Nat.le_of_ble_eq_true rfl) (List.mem_of_getElem? (i := 5) rfl) (w' := (WM cI cZ cC cH o a_clock a_note a_text a_read a_fit a_shown a_image a_isKept a_row a_best m_told m_isRead1 m_clock m_note m_noted m_bytes m_text w_m_position_1 w_m_position_1 m_token 0 m_number m_faultAt m_readMany m_readTold m_read m_fit m_shown m_image m_isKept m_row m_best m_againAt m_againStep m_orderMany m_orderLeast)) rfl rfl dX7_nextToken_48 (fun H locs hh => ?_)
        refine lv_aload_n hx hb dX7_nextToken_51 rfl (lv_at hl 0 rfl) ?_
        refine lv_iconst (v := 0) hx hb dX7_nextToken_52 (by decide) ?_
        refine g_put KX hh in_X7_nextToken_X7 tyX7 tyX7_ok nmX7 0 rfl rfl 11 (by decide) rfl rfl rfl (Nat.le_of_ble_eq_true rfl) (List.mem_of_getElem? (i := 6) rfl) (w' := (WM cI cZ cC cH o a_clock a_note a_text a_read a_fit a_shown a_image a_isKept a_row a_best m_told m_isRead1 m_clock m_note m_noted m_bytes m_text w_m_position_1 w_m_position_1 m_token 0 0 m_faultAt m_readMany m_readTold m_read m_fit m_shown m_image m_isKept m_row m_best m_againAt m_againStep m_orderMany m_orderLeast)) rfl rfl dX7_nextToken_53 (fun H locs hh => ?_)
        refine lv_aload_n hx hb dX7_nextToken_56 rfl (lv_at hl 0 rfl) ?_
        refine g_get KX hh in_X7_nextToken_X7 0 rfl rfl 7 (by decide) rfl (List.mem_of_getElem? (i := 1) rfl) dX7_nextToken_57 ?_
        refine lv_aload_n hx hb dX7_nextToken_60 rfl (lv_at hl 0 rfl) ?_
        refine g_get KX hh in_X7_nextToken_X7 0 rfl rfl 5 (by decide) rfl (List.mem_of_getElem? (i := 2) rfl) dX7_nextToken_61 ?_
        refine lv_icmp_ne (tgt := 77) hx hb dX7_nextToken_64 (by decide) (fun c_64 => ?_) (fun c_64 => ?_)
        · replace hF := hF.trans (if_neg c_64)
          have i_64 : ¬ w_m_position_1.toInt = m_bytes.toInt := ti_ne c_64
          refine lv_aload_n hx hb dX7_nextToken_77 rfl (lv_at hl 0 rfl) ?_
          refine g_get KX hh in_X7_nextToken_X7 0 rfl rfl 6 (by decide) rfl (List.mem_of_getElem? (i := 3) rfl) dX7_nextToken_78 ?_
          refine lv_aload_n hx hb dX7_nextToken_81 rfl (lv_at hl 0 rfl) ?_
          refine g_get KX hh in_X7_nextToken_X7 0 rfl rfl 7 (by decide) rfl (List.mem_of_getElem? (i := 1) rfl) dX7_nextToken_82 ?_
          refine g_iald KX hh 3 0 rfl rfl (vp_in_iff.mpr (by omega)) dX7_nextToken_85 ?_
          refine lv_bipush (v := 97) hx hb dX7_nextToken_86 (by decide) ?_
          refine lv_bipush (v := 122) hx hb dX7_nextToken_88 (by decide) ?_
          refine g_callS (As := [.int (m_text w_m_position_1.toNatClampNeg), .int 97, .int 122]) (rest := []) KX rfl ⟨Nat.le_of_ble_eq_true rfl, Nat.le_of_ble_eq_true rfl⟩ hh hl (c_X7_in l D cI cZ cC cH  (m_text w_m_position_1.toNatClampNeg) 97 122 ) JN.no 3 gX7_nextToken_X7_in rfl (by decide +kernel) ⟨Nat.le_of_ble_eq_true rfl, Nat.le_of_ble_eq_true rfl⟩ rfl rfl (Nat.le_of_ble_eq_true rfl) dX7_nextToken_90 (fun H locs hh => ?_)
          refine W.eq (g2 := F0 m 93 ls [.int (F_X7_in (m_text w_m_position_1.toNatClampNeg) 97 122)]) rfl ?_
          refine lv_if_eq (tgt := 222) hx hb dX7_nextToken_93 (by decide) (fun c_93 => ?_) (fun c_93 => ?_)
          · replace hF := hF.trans (if_pos c_93)
            have i_93 : (F_X7_in (m_text w_m_position_1.toNatClampNeg) 97 122).toInt = 0 := congrArg Int32.toInt c_93
            refine lv_aload_n hx hb dX7_nextToken_222 rfl (lv_at hl 0 rfl) ?_
            refine g_get KX hh in_X7_nextToken_X7 0 rfl rfl 6 (by decide) rfl (List.mem_of_getElem? (i := 3) rfl) dX7_nextToken_223 ?_
            refine lv_aload_n hx hb dX7_nextToken_226 rfl (lv_at hl 0 rfl) ?_
            refine g_get KX hh in_X7_nextToken_X7 0 rfl rfl 7 (by decide) rfl (List.mem_of_getElem? (i := 1) rfl) dX7_nextToken_227 ?_
            refine g_iald KX hh 3 0 rfl rfl (vp_in_iff.mpr (by omega)) dX7_nextToken_230 ?_
            refine lv_bipush (v := 48) hx hb dX7_nextToken_231 (by decide) ?_
            refine lv_bipush (v := 57) hx hb dX7_nextToken_233 (by decide) ?_
            refine g_callS (As := [.int (m_text w_m_position_1.toNatClampNeg), .int 48, .int 57]) (rest := []) KX rfl ⟨Nat.le_of_ble_eq_true rfl, Nat.le_of_ble_eq_true rfl⟩ hh hl (c_X7_in l D cI cZ cC cH  (m_text w_m_position_1.toNatClampNeg) 48 57 ) JN.no 3 gX7_nextToken_X7_in rfl (by decide +kernel) ⟨Nat.le_of_ble_eq_true rfl, Nat.le_of_ble_eq_true rfl⟩ rfl rfl (Nat.le_of_ble_eq_true rfl) dX7_nextToken_235 (fun H locs hh => ?_)
            refine W.eq (g2 := F0 m 238 ls [.int (F_X7_in (m_text w_m_position_1.toNatClampNeg) 48 57)]) rfl ?_
            refine lv_if_eq (tgt := 357) hx hb dX7_nextToken_238 (by decide) (fun c_238 => ?_) (fun c_238 => ?_)
            · replace hF := hF.trans (if_pos c_238)
              have i_238 : (F_X7_in (m_text w_m_position_1.toNatClampNeg) 48 57).toInt = 0 := congrArg Int32.toInt c_238
              refine lv_aload_n hx hb dX7_nextToken_357 rfl (lv_at hl 0 rfl) ?_
              refine lv_aload_n hx hb dX7_nextToken_358 rfl (lv_at hl 0 rfl) ?_
              refine g_get KX hh in_X7_nextToken_X7 0 rfl rfl 6 (by decide) rfl (List.mem_of_getElem? (i := 3) rfl) dX7_nextToken_359 ?_
              refine lv_aload_n hx hb dX7_nextToken_362 rfl (lv_at hl 0 rfl) ?_
              refine g_get KX hh in_X7_nextToken_X7 0 rfl rfl 7 (by decide) rfl (List.mem_of_getElem? (i := 1) rfl) dX7_nextToken_363 ?_
              refine g_iald KX hh 3 0 rfl rfl (vp_in_iff.mpr (by omega)) dX7_nextToken_366 ?_
              refine lv_bipush (v := 59) hx hb dX7_nextToken_367 (by decide) ?_
              refine lv_icmp_ne (tgt := 378) hx hb dX7_nextToken_369 (by decide) (fun c_369 => ?_) (fun c_369 => ?_)
              · replace hF := hF.trans (if_neg c_369)
                have i_369 : ¬ (m_text w_m_position_1.toNatClampNeg).toInt = 59 := ti_ne c_369
                refine lv_ldc2 (v := (-4)) hx hb KX.2.2.2.1 (KX.2.2.2.2.1 _ (List.mem_of_getElem? (i := 11) rfl)) dX7_nextToken_378 ?_
                refine g_put KX hh in_X7_nextToken_X7 tyX7 tyX7_ok nmX7 0 rfl rfl 9 (by decide) rfl rfl rfl (Nat.le_of_ble_eq_true rfl) (List.mem_of_getElem? (i := 8) rfl) (w' := (WM cI cZ cC cH o a_clock a_note a_text a_read a_fit a_shown a_image a_isKept a_row a_best m_told m_isRead1 m_clock m_note m_noted m_bytes m_text w_m_position_1 w_m_position_1 (-4) 0 0 m_faultAt m_readMany m_readTold m_read m_fit m_shown m_image m_isKept m_row m_best m_againAt m_againStep m_orderMany m_orderLeast)) rfl rfl dX7_nextToken_381 (fun H locs hh => ?_)
                refine lv_aload_n hx hb dX7_nextToken_384 rfl (lv_at hl 0 rfl) ?_
                refine lv_dup hx hb dX7_nextToken_385 rfl ?_
                refine g_get KX hh in_X7_nextToken_X7 0 rfl rfl 7 (by decide) rfl (List.mem_of_getElem? (i := 1) rfl) dX7_nextToken_386 ?_
                refine lv_iconst (v := 1) hx hb dX7_nextToken_389 (by decide) ?_
                refine lv_iadd hx hb dX7_nextToken_390 ?_
                refine g_put KX hh in_X7_nextToken_X7 tyX7 tyX7_ok nmX7 0 rfl rfl 7 (by decide) rfl rfl rfl (Nat.le_of_ble_eq_true rfl) (List.mem_of_getElem? (i := 1) rfl) (w' := (WM cI cZ cC cH o a_clock a_note a_text a_read a_fit a_shown a_image a_isKept a_row a_best m_told m_isRead1 m_clock m_note m_noted m_bytes m_text (w_m_position_1 + 1) w_m_position_1 (-4) 0 0 m_faultAt m_readMany m_readTold m_read m_fit m_shown m_image m_isKept m_row m_best m_againAt m_againStep m_orderMany m_orderLeast)) rfl rfl dX7_nextToken_391 (fun H locs hh => ?_)
                exact RT _ _ _ _ _ _ hh (by rw [hF]) (Or.inr (Or.inr (Or.inl ⟨rfl, rfl, dX7_nextToken_394, rfl⟩)))
              · replace hF := hF.trans (if_pos c_369)
                have i_369 : (m_text w_m_position_1.toNatClampNeg).toInt = 59 := congrArg Int32.toInt c_369
                refine lv_ldc2 (v := (-3)) hx hb KX.2.2.2.1 (KX.2.2.2.2.1 _ (List.mem_of_getElem? (i := 13) rfl)) dX7_nextToken_372 ?_
                refine lv_goto (tgt := 381) hx hb dX7_nextToken_375 (by decide) ?_
                refine g_put KX hh in_X7_nextToken_X7 tyX7 tyX7_ok nmX7 0 rfl rfl 9 (by decide) rfl rfl rfl (Nat.le_of_ble_eq_true rfl) (List.mem_of_getElem? (i := 8) rfl) (w' := (WM cI cZ cC cH o a_clock a_note a_text a_read a_fit a_shown a_image a_isKept a_row a_best m_told m_isRead1 m_clock m_note m_noted m_bytes m_text w_m_position_1 w_m_position_1 (-3) 0 0 m_faultAt m_readMany m_readTold m_read m_fit m_shown m_image m_isKept m_row m_best m_againAt m_againStep m_orderMany m_orderLeast)) rfl rfl dX7_nextToken_381 (fun H locs hh => ?_)
                refine lv_aload_n hx hb dX7_nextToken_384 rfl (lv_at hl 0 rfl) ?_
                refine lv_dup hx hb dX7_nextToken_385 rfl ?_
                refine g_get KX hh in_X7_nextToken_X7 0 rfl rfl 7 (by decide) rfl (List.mem_of_getElem? (i := 1) rfl) dX7_nextToken_386 ?_
                refine lv_iconst (v := 1) hx hb dX7_nextToken_389 (by decide) ?_
                refine lv_iadd hx hb dX7_nextToken_390 ?_
                refine g_put KX hh in_X7_nextToken_X7 tyX7 tyX7_ok nmX7 0 rfl rfl 7 (by decide) rfl rfl rfl (Nat.le_of_ble_eq_true rfl) (List.mem_of_getElem? (i := 1) rfl) (w' := (WM cI cZ cC cH o a_clock a_note a_text a_read a_fit a_shown a_image a_isKept a_row a_best m_told m_isRead1 m_clock m_note m_noted m_bytes m_text (w_m_position_1 + 1) w_m_position_1 (-3) 0 0 m_faultAt m_readMany m_readTold m_read m_fit m_shown m_image m_isKept m_row m_best m_againAt m_againStep m_orderMany m_orderLeast)) rfl rfl dX7_nextToken_391 (fun H locs hh => ?_)
                exact RT _ _ _ _ _ _ hh (by rw [hF]) (Or.inr (Or.inr (Or.inl ⟨rfl, rfl, dX7_nextToken_394, rfl⟩)))
            · replace hF := hF.trans (if_neg c_238)
              have i_238 : ¬ (F_X7_in (m_text w_m_position_1.toNatClampNeg) 48 57).toInt = 0 := ti_ne c_238
              obtain ⟨k0_238, k1_238⟩ : (48 : Int) ≤ (m_text w_m_position_1.toNatClampNeg).toInt ∧ (m_text w_m_position_1.toNatClampNeg).toInt ≤ 57 := X7_in_in c_238
              have L_241 : ∀ (n_241 : Nat) (w_m_position_2 : Int32) (w_m_digits_3 : Int32) (w_m_number_4 : Int32) (p0_241 : 0 ≤ w_m_position_2.toInt) (p1_241 : w_m_position_2.toInt ≤ m_bytes.toInt) (_ : (m_bytes.toInt - w_m_position_2.toInt).toNat < n_241) (_ : R = (F_X7_nextToken_241 m_bytes m_text w_m_position_1) n_241 w_m_position_2 w_m_digits_3 w_m_number_4) (ls : Array Slot) (H : Heap) (locs : List Loc) (_ : HS D A s.heap (WM cI cZ cC cH o a_clock a_note a_text a_read a_fit a_shown a_image a_isKept a_row a_best m_told m_isRead1 m_clock m_note m_noted m_bytes m_text w_m_position_2 w_m_position_1 m_token w_m_digits_3 w_m_number_4 m_faultAt m_readMany m_readTold m_read m_fit m_shown m_image m_isKept m_row m_best m_againAt m_againStep m_orderMany m_orderLeast) H locs) (_ : lv_has ls 1 [(0, .ref o)]), W p l e { frames := 1, cells := 0, slots := 0, locals := 22 } s m args below meth c H locs 0 0 Q (F0 m 241 ls []) := by
                intro n_241
                induction n_241 with
                | zero => intro w_m_position_2 w_m_digits_3 w_m_number_4 p0_241 p1_241 hm; exact absurd hm (Nat.not_lt_zero _)
                | succ n_241 ih_241 =>
                  intro w_m_position_2 w_m_digits_3 w_m_number_4 p0_241 p1_241 hm_241 hF ls H locs hh hl
                  rw [F_X7_nextToken_241.eq_2] at hF
                  refine lv_aload_n hx hb dX7_nextToken_241 rfl (lv_at hl 0 rfl) ?_
                  refine g_get KX hh in_X7_nextToken_X7 0 rfl rfl 7 (by decide) rfl (List.mem_of_getElem? (i := 1) rfl) dX7_nextToken_242 ?_
                  refine lv_aload_n hx hb dX7_nextToken_245 rfl (lv_at hl 0 rfl) ?_
                  refine g_get KX hh in_X7_nextToken_X7 0 rfl rfl 5 (by decide) rfl (List.mem_of_getElem? (i := 2) rfl) dX7_nextToken_246 ?_
                  have K_333 : ∀ (_ : R = (F_X7_nextToken_333 w_m_position_1 w_m_position_2 w_m_digits_3 w_m_number_4)) (ls : Array Slot) (H : Heap) (locs : List Loc) (_ : HS D A s.heap (WM cI cZ cC cH o a_clock a_note a_text a_read a_fit a_shown a_image a_isKept a_row a_best m_told m_isRead1 m_clock m_note m_noted m_bytes m_text w_m_position_2 w_m_position_1 m_token w_m_digits_3 w_m_number_4 m_faultAt m_readMany m_readTold m_read m_fit m_shown m_image m_isKept m_row m_best m_againAt m_againStep m_orderMany m_orderLeast) H locs) (_ : lv_has ls 1 [(0, .ref o)]), W p l e { frames := 1, cells := 0, slots := 0, locals := 22 } s m args below meth c H locs 0 0 Q (F0 m 333 ls []) := by
                    intro  hF ls H locs hh hl
                    unfold F_X7_nextToken_333 at hF
                    refine lv_aload_n hx hb dX7_nextToken_333 rfl (lv_at hl 0 rfl) ?_
                    refine lv_aload_n hx hb dX7_nextToken_334 rfl (lv_at hl 0 rfl) ?_
                    refine g_get KX hh in_X7_nextToken_X7 0 rfl rfl 10 (by decide) rfl (List.mem_of_getElem? (i := 5) rfl) dX7_nextToken_335 ?_
                    refine lv_iconst (v := 4) hx hb dX7_nextToken_338 (by decide) ?_
                    refine lv_icmp_le (tgt := 348) hx hb dX7_nextToken_339 (by decide) (fun c_339 => ?_) (fun c_339 => ?_)
                    · replace hF := hF.trans (if_pos c_339)
                      have i_339 : w_m_digits_3.toInt ≤ 4 := ti_le.mp c_339
                      refine lv_ldc2 (v := (-1)) hx hb KX.2.2.2.1 (KX.2.2.2.2.1 _ (List.mem_of_getElem? (i := 12) rfl)) dX7_nextToken_348 ?_
                      refine g_put KX hh in_X7_nextToken_X7 tyX7 tyX7_ok nmX7 0 rfl rfl 9 (by decide) rfl rfl rfl (Nat.le_of_ble_eq_true rfl) (List.mem_of_getElem? (i := 8) rfl) (w' := (WM cI cZ cC cH o a_clock a_note a_text a_read a_fit a_shown a_image a_isKept a_row a_best m_told m_isRead1 m_clock m_note m_noted m_bytes m_text w_m_position_2 w_m_position_1 (-1) w_m_digits_3 w_m_number_4 m_faultAt m_readMany m_readTold m_read m_fit m_shown m_image m_isKept m_row m_best m_againAt m_againStep m_orderMany m_orderLeast)) rfl rfl dX7_nextToken_351 (fun H locs hh => ?_)
                      refine lv_goto (tgt := 394) hx hb dX7_nextToken_354 (by decide) ?_
                      exact RT _ _ _ _ _ _ hh (by rw [hF]) (Or.inr (Or.inr (Or.inl ⟨rfl, rfl, dX7_nextToken_394, rfl⟩)))
                    · replace hF := hF.trans (if_neg c_339)
                      have i_339 : 4 < w_m_digits_3.toInt := ti_nle c_339
                      refine lv_ldc2 (v := (-4)) hx hb KX.2.2.2.1 (KX.2.2.2.2.1 _ (List.mem_of_getElem? (i := 11) rfl)) dX7_nextToken_342 ?_
                      refine lv_goto (tgt := 351) hx hb dX7_nextToken_345 (by decide) ?_
                      refine g_put KX hh in_X7_nextToken_X7 tyX7 tyX7_ok nmX7 0 rfl rfl 9 (by decide) rfl rfl rfl (Nat.le_of_ble_eq_true rfl) (List.mem_of_getElem? (i := 8) rfl) (w' := (WM cI cZ cC cH o a_clock a_note a_text a_read a_fit a_shown a_image a_isKept a_row a_best m_told m_isRead1 m_clock m_note m_noted m_bytes m_text w_m_position_2 w_m_position_1 (-4) w_m_digits_3 w_m_number_4 m_faultAt m_readMany m_readTold m_read m_fit m_shown m_image m_isKept m_row m_best m_againAt m_againStep m_orderMany m_orderLeast)) rfl rfl dX7_nextToken_351 (fun H locs hh => ?_)
                      refine lv_goto (tgt := 394) hx hb dX7_nextToken_354 (by decide) ?_
                      exact RT _ _ _ _ _ _ hh (by rw [hF]) (Or.inr (Or.inr (Or.inl ⟨rfl, rfl, dX7_nextToken_394, rfl⟩)))
                  refine lv_icmp_ge (tgt := 333) hx hb dX7_nextToken_249 (by decide) (fun c_249 => ?_) (fun c_249 => ?_)
                  · replace hF := hF.trans (if_pos c_249)
                    have i_249 : m_bytes.toInt ≤ w_m_position_2.toInt := ti_le.mp c_249
                    exact K_333   hF _ _ _ hh (lv_sub hl [0] rfl)
                  · replace hF := hF.trans (if_neg c_249)
                    have i_249 : w_m_position_2.toInt < m_bytes.toInt := ti_nle c_249
                    refine lv_aload_n hx hb dX7_nextToken_252 rfl (lv_at hl 0 rfl) ?_
                    refine g_get KX hh in_X7_nextToken_X7 0 rfl rfl 6 (by decide) rfl (List.mem_of_getElem? (i := 3) rfl) dX7_nextToken_253 ?_
                    refine lv_aload_n hx hb dX7_nextToken_256 rfl (lv_at hl 0 rfl) ?_
                    refine g_get KX hh in_X7_nextToken_X7 0 rfl rfl 7 (by decide) rfl (List.mem_of_getElem? (i := 1) rfl) dX7_nextToken_257 ?_
                    refine g_iald KX hh 3 0 rfl rfl (vp_in_iff.mpr (by omega)) dX7_nextToken_260 ?_
                    refine lv_bipush (v := 48) hx hb dX7_nextToken_261 (by decide) ?_
                    refine lv_bipush (v := 57) hx hb dX7_nextToken_263 (by decide) ?_
                    refine g_callS (As := [.int (m_text w_m_position_2.toNatClampNeg), .int 48, .int 57]) (rest := []) KX rfl ⟨Nat.le_of_ble_eq_true rfl, Nat.le_of_ble_eq_true rfl⟩ hh hl (c_X7_in l D cI cZ cC cH  (m_text w_m_position_2.toNatClampNeg) 48 57 ) JN.no 3 gX7_nextToken_X7_in rfl (by decide +kernel) ⟨Nat.le_of_ble_eq_true rfl, Nat.le_of_ble_eq_true rfl⟩ rfl rfl (Nat.le_of_ble_eq_true rfl) dX7_nextToken_265 (fun H locs hh => ?_)
                    refine W.eq (g2 := F0 m 268 ls [.int (F_X7_in (m_text w_m_position_2.toNatClampNeg) 48 57)]) rfl ?_
                    refine lv_if_eq (tgt := 333) hx hb dX7_nextToken_268 (by decide) (fun c_268 => ?_) (fun c_268 => ?_)
                    · replace hF := hF.trans (if_pos c_268)
                      have i_268 : (F_X7_in (m_text w_m_position_2.toNatClampNeg) 48 57).toInt = 0 := congrArg Int32.toInt c_268
                      exact K_333   hF _ _ _ hh (lv_sub hl [0] rfl)
                    · replace hF := hF.trans (if_neg c_268)
                      have i_268 : ¬ (F_X7_in (m_text w_m_position_2.toNatClampNeg) 48 57).toInt = 0 := ti_ne c_268
                      obtain ⟨k0_268, k1_268⟩ : (48 : Int) ≤ (m_text w_m_position_2.toNatClampNeg).toInt ∧ (m_text w_m_position_2.toNatClampNeg).toInt ≤ 57 := X7_in_in c_268
                      refine lv_aload_n hx hb dX7_nextToken_271 rfl (lv_at hl 0 rfl) ?_
                      refine lv_aload_n hx hb dX7_nextToken_272 rfl (lv_at hl 0 rfl) ?_
                      refine g_get KX hh in_X7_nextToken_X7 0 rfl rfl 10 (by decide) rfl (List.mem_of_getElem? (i := 5) rfl) dX7_nextToken_273 ?_
                      refine lv_iconst (v := 4) hx hb dX7_nextToken_276 (by decide) ?_
                      have K_307 : ∀ (y0_5 : Int32) (_ : R = (F_X7_nextToken_307 w_m_position_2 w_m_digits_3 ((F_X7_nextToken_241 m_bytes m_text w_m_position_1) n_241)) y0_5) (ls : Array Slot) (H : Heap) (locs : List Loc) (_ : HS D A s.heap (WM cI cZ cC cH o a_clock a_note a_text a_read a_fit a_shown a_image a_isKept a_row a_best m_told m_isRead1 m_clock m_note m_noted m_bytes m_text w_m_position_2 w_m_position_1 m_token w_m_digits_3 w_m_number_4 m_faultAt m_readMany m_readTold m_read m_fit m_shown m_image m_isKept m_row m_best m_againAt m_againStep m_orderMany m_orderLeast) H locs) (_ : lv_has ls 1 [(0, .ref o)]), W p l e { frames := 1, cells := 0, slots := 0, locals := 22 } s m args below meth c H locs 0 0 Q (F0 m 307 ls [.int y0_5, .ref o]) := by
                        intro y0_5 hF ls H locs hh hl
                        unfold F_X7_nextToken_307 at hF
                        refine g_put KX hh in_X7_nextToken_X7 tyX7 tyX7_ok nmX7 0 rfl rfl 11 (by decide) rfl rfl rfl (Nat.le_of_ble_eq_true rfl) (List.mem_of_getElem? (i := 6) rfl) (w' := (WM cI cZ cC cH o a_clock a_note a_text a_read a_fit a_shown a_image a_isKept a_row a_best m_told m_isRead1 m_clock m_note m_noted m_bytes m_text w_m_position_2 w_m_position_1 m_token w_m_digits_3 y0_5 m_faultAt m_readMany m_readTold m_read m_fit m_shown m_image m_isKept m_row m_best m_againAt m_againStep m_orderMany m_orderLeast)) rfl rfl dX7_nextToken_307 (fun H locs hh => ?_)
                        refine lv_aload_n hx hb dX7_nextToken_310 rfl (lv_at hl 0 rfl) ?_
                        refine lv_dup hx hb dX7_nextToken_311 rfl ?_
                        refine g_get KX hh in_X7_nextToken_X7 0 rfl rfl 10 (by decide) rfl (List.mem_of_getElem? (i := 5) rfl) dX7_nextToken_312 ?_
                        refine lv_iconst (v := 1) hx hb dX7_nextToken_315 (by decide) ?_
                        refine lv_iadd hx hb dX7_nextToken_316 ?_
                        refine g_put KX hh in_X7_nextToken_X7 tyX7 tyX7_ok nmX7 0 rfl rfl 10 (by decide) rfl rfl rfl (Nat.le_of_ble_eq_true rfl) (List.mem_of_getElem? (i := 5) rfl) (w' := (WM cI cZ cC cH o a_clock a_note a_text a_read a_fit a_shown a_image a_isKept a_row a_best m_told m_isRead1 m_clock m_note m_noted m_bytes m_text w_m_position_2 w_m_position_1 m_token (w_m_digits_3 + 1) y0_5 m_faultAt m_readMany m_readTold m_read m_fit m_shown m_image m_isKept m_row m_best m_againAt m_againStep m_orderMany m_orderLeast)) rfl rfl dX7_nextToken_317 (fun H locs hh => ?_)
                        refine lv_aload_n hx hb dX7_nextToken_320 rfl (lv_at hl 0 rfl) ?_
                        refine lv_dup hx hb dX7_nextToken_321 rfl ?_
                        refine g_get KX hh in_X7_nextToken_X7 0 rfl rfl 7 (by decide) rfl (List.mem_of_getElem? (i := 1) rfl) dX7_nextToken_322 ?_
                        refine lv_iconst (v := 1) hx hb dX7_nextToken_325 (by decide) ?_
                        refine lv_iadd hx hb dX7_nextToken_326 ?_
                        refine g_put KX hh in_X7_nextToken_X7 tyX7 tyX7_ok nmX7 0 rfl rfl 7 (by decide) rfl rfl rfl (Nat.le_of_ble_eq_true rfl) (List.mem_of_getElem? (i := 1) rfl) (w' := (WM cI cZ cC cH o a_clock a_note a_text a_read a_fit a_shown a_image a_isKept a_row a_best m_told m_isRead1 m_clock m_note m_noted m_bytes m_text (w_m_position_2 + 1) w_m_position_1 m_token (w_m_digits_3 + 1) y0_5 m_faultAt m_readMany m_readTold m_read m_fit m_shown m_image m_isKept m_row m_best m_againAt m_againStep m_orderMany m_orderLeast)) rfl rfl dX7_nextToken_327 (fun H locs hh => ?_)
                        refine lv_goto (tgt := 241) hx hb dX7_nextToken_330 (by decide) ?_
                        have e_inc : (w_m_position_2 + 1).toInt = _ := ti_inc (by omega)
                        exact ih_241 (w_m_position_2 + 1) (w_m_digits_3 + 1) y0_5 (by first | assumption | omega | decide) (by first | assumption | omega | decide) (by first | omega | simp_all) hF _ _ _ hh (lv_sub hl [0] rfl)
                      refine lv_icmp_ge (tgt := 303) hx hb dX7_nextToken_277 (by decide) (fun c_277 => ?_) (fun c_277 => ?_)
                      · replace hF := hF.trans (if_pos c_277)
                        have i_277 : 4 ≤ w_m_digits_3.toInt := ti_le.mp c_277
                        refine lv_aload_n hx hb dX7_nextToken_303 rfl (lv_at hl 0 rfl) ?_
                        refine g_get KX hh in_X7_nextToken_X7 0 rfl rfl 11 (by decide) rfl (List.mem_of_getElem? (i := 6) rfl) dX7_nextToken_304 ?_
                        exact K_307 w_m_number_4  hF _ _ _ hh (lv_sub hl [0] rfl)
                      · replace hF := hF.trans (if_neg c_277)
                        have i_277 : w_m_digits_3.toInt < 4 := ti_nle c_277
                        refine lv_bipush (v := 10) hx hb dX7_nextToken_280 (by decide) ?_
                        refine lv_aload_n hx hb dX7_nextToken_282 rfl (lv_at hl 0 rfl) ?_
                        refine g_get KX hh in_X7_nextToken_X7 0 rfl rfl 11 (by decide) rfl (List.mem_of_getElem? (i := 6) rfl) dX7_nextToken_283 ?_
                        refine lv_imul hx hb dX7_nextToken_286 ?_
                        refine lv_aload_n hx hb dX7_nextToken_287 rfl (lv_at hl 0 rfl) ?_
                        refine g_get KX hh in_X7_nextToken_X7 0 rfl rfl 6 (by decide) rfl (List.mem_of_getElem? (i := 3) rfl) dX7_nextToken_288 ?_
                        refine lv_aload_n hx hb dX7_nextToken_291 rfl (lv_at hl 0 rfl) ?_
                        refine g_get KX hh in_X7_nextToken_X7 0 rfl rfl 7 (by decide) rfl (List.mem_of_getElem? (i := 1) rfl) dX7_nextToken_292 ?_
                        refine g_iald KX hh 3 0 rfl rfl (vp_in_iff.mpr (by omega)) dX7_nextToken_295 ?_
                        refine lv_iadd hx hb dX7_nextToken_296 ?_
                        refine lv_bipush (v := 48) hx hb dX7_nextToken_297 (by decide) ?_
                        refine lv_isub hx hb dX7_nextToken_299 ?_
                        refine lv_goto (tgt := 307) hx hb dX7_nextToken_300 (by decide) ?_
                        exact K_307 (((10 * w_m_number_4) + (m_text w_m_position_2.toNatClampNeg)) - 48)  hF _ _ _ hh (lv_sub hl [0] rfl)
              exact L_241 201 w_m_position_1 0 0 (by first | assumption | omega | decide) (by first | assumption | omega | decide) (by first | omega | decide | (simp; done)) hF _ _ _ hh (lv_sub hl [0] rfl)
          · replace hF := hF.trans (if_neg c_93)
            have i_93 : ¬ (F_X7_in (m_text w_m_position_1.toNatClampNeg) 97 122).toInt = 0 := ti_ne c_93
            obtain ⟨k0_93, k1_93⟩ : (97 : Int) ≤ (m_text w_m_position_1.toNatClampNeg).toInt ∧ (m_text w_m_position_1.toNatClampNeg).toInt ≤ 122 := X7_in_in c_93
            refine lv_aload_n hx hb dX7_nextToken_96 rfl (lv_at hl 0 rfl) ?_
            refine lv_lconst (v := 0) hx hb dX7_nextToken_97 (by decide) ?_
            refine g_put KX hh in_X7_nextToken_X7 tyX7 tyX7_ok nmX7 0 rfl rfl 9 (by decide) rfl rfl rfl (Nat.le_of_ble_eq_true rfl) (List.mem_of_getElem? (i := 8) rfl) (w' := (WM cI cZ cC cH o a_clock a_note a_text a_read a_fit a_shown a_image a_isKept a_row a_best m_told m_isRead1 m_clock m_note m_noted m_bytes m_text w_m_position_1 w_m_position_1 0 0 0 m_faultAt m_readMany m_readTold m_read m_fit m_shown m_image m_isKept m_row m_best m_againAt m_againStep m_orderMany m_orderLeast)) rfl rfl dX7_nextToken_98 (fun H locs hh => ?_)
            have L_101 : ∀ (n_101 : Nat) (w_m_position_6 : Int32) (w_m_token_7 : Int64) (p0_101 : 0 ≤ w_m_position_6.toInt) (p1_101 : w_m_position_6.toInt ≤ m_bytes.toInt) (_ : (m_bytes.toInt - w_m_position_6.toInt).toNat < n_101) (_ : R = (F_X7_nextToken_101 m_bytes m_text w_m_position_1) n_101 w_m_position_6 w_m_token_7) (ls : Array Slot) (H : Heap) (locs : List Loc) (_ : HS D A s.heap (WM cI cZ cC cH o a_clock a_note a_text a_read a_fit a_shown a_image a_isKept a_row a_best m_told m_isRead1 m_clock m_note m_noted m_bytes m_text w_m_position_6 w_m_position_1 w_m_token_7 0 0 m_faultAt m_readMany m_readTold m_read m_fit m_shown m_image m_isKept m_row m_best m_againAt m_againStep m_orderMany m_orderLeast) H locs) (_ : lv_has ls 1 [(0, .ref o)]), W p l e { frames := 1, cells := 0, slots := 0, locals := 22 } s m args below meth c H locs 0 0 Q (F0 m 101 ls []) := by
              intro n_101
              induction n_101 with
              | zero => intro w_m_position_6 w_m_token_7 p0_101 p1_101 hm; exact absurd hm (Nat.not_lt_zero _)
              | succ n_101 ih_101 =>
                intro w_m_position_6 w_m_token_7 p0_101 p1_101 hm_101 hF ls H locs hh hl
                rw [F_X7_nextToken_101.eq_2] at hF
                refine lv_aload_n hx hb dX7_nextToken_101 rfl (lv_at hl 0 rfl) ?_
                refine g_get KX hh in_X7_nextToken_X7 0 rfl rfl 7 (by decide) rfl (List.mem_of_getElem? (i := 1) rfl) dX7_nextToken_102 ?_
                refine lv_aload_n hx hb dX7_nextToken_105 rfl (lv_at hl 0 rfl) ?_
                refine g_get KX hh in_X7_nextToken_X7 0 rfl rfl 5 (by decide) rfl (List.mem_of_getElem? (i := 2) rfl) dX7_nextToken_106 ?_
                have K_191 : ∀ (_ : R = (F_X7_nextToken_191 w_m_position_1 w_m_position_6 w_m_token_7)) (ls : Array Slot) (H : Heap) (locs : List Loc) (_ : HS D A s.heap (WM cI cZ cC cH o a_clock a_note a_text a_read a_fit a_shown a_image a_isKept a_row a_best m_told m_isRead1 m_clock m_note m_noted m_bytes m_text w_m_position_6 w_m_position_1 w_m_token_7 0 0 m_faultAt m_readMany m_readTold m_read m_fit m_shown m_image m_isKept m_row m_best m_againAt m_againStep m_orderMany m_orderLeast) H locs) (_ : lv_has ls 1 [(0, .ref o)]), W p l e { frames := 1, cells := 0, slots := 0, locals := 22 } s m args below meth c H locs 0 0 Q (F0 m 191 ls []) := by
                  intro  hF ls H locs hh hl
                  unfold F_X7_nextToken_191 at hF
                  refine lv_aload_n hx hb dX7_nextToken_191 rfl (lv_at hl 0 rfl) ?_
                  refine lv_aload_n hx hb dX7_nextToken_192 rfl (lv_at hl 0 rfl) ?_
                  refine g_get KX hh in_X7_nextToken_X7 0 rfl rfl 7 (by decide) rfl (List.mem_of_getElem? (i := 1) rfl) dX7_nextToken_193 ?_
                  refine lv_aload_n hx hb dX7_nextToken_196 rfl (lv_at hl 0 rfl) ?_
                  refine g_get KX hh in_X7_nextToken_X7 0 rfl rfl 8 (by decide) rfl (List.mem_of_getElem? (i := 4) rfl) dX7_nextToken_197 ?_
                  refine lv_isub hx hb dX7_nextToken_200 ?_
                  refine lv_bipush (v := 9) hx hb dX7_nextToken_201 (by decide) ?_
                  refine lv_icmp_le (tgt := 212) hx hb dX7_nextToken_203 (by decide) (fun c_203 => ?_) (fun c_203 => ?_)
                  · replace hF := hF.trans (if_pos c_203)
                    have i_203 : (w_m_position_6 - w_m_position_1).toInt ≤ 9 := ti_le.mp c_203
                    refine lv_aload_n hx hb dX7_nextToken_212 rfl (lv_at hl 0 rfl) ?_
                    refine g_get KX hh in_X7_nextToken_X7 0 rfl rfl 9 (by decide) rfl (List.mem_of_getElem? (i := 8) rfl) dX7_nextToken_213 ?_
                    refine g_put KX hh in_X7_nextToken_X7 tyX7 tyX7_ok nmX7 0 rfl rfl 9 (by decide) rfl rfl rfl (Nat.le_of_ble_eq_true rfl) (List.mem_of_getElem? (i := 8) rfl) (w' := (WM cI cZ cC cH o a_clock a_note a_text a_read a_fit a_shown a_image a_isKept a_row a_best m_told m_isRead1 m_clock m_note m_noted m_bytes m_text w_m_position_6 w_m_position_1 w_m_token_7 0 0 m_faultAt m_readMany m_readTold m_read m_fit m_shown m_image m_isKept m_row m_best m_againAt m_againStep m_orderMany m_orderLeast)) rfl rfl dX7_nextToken_216 (fun H locs hh => ?_)
                    refine lv_goto (tgt := 394) hx hb dX7_nextToken_219 (by decide) ?_
                    exact RT _ _ _ _ _ _ hh (by rw [hF]) (Or.inr (Or.inr (Or.inl ⟨rfl, rfl, dX7_nextToken_394, rfl⟩)))
                  · replace hF := hF.trans (if_neg c_203)
                    have i_203 : 9 < (w_m_position_6 - w_m_position_1).toInt := ti_nle c_203
                    refine lv_ldc2 (v := (-4)) hx hb KX.2.2.2.1 (KX.2.2.2.2.1 _ (List.mem_of_getElem? (i := 11) rfl)) dX7_nextToken_206 ?_
                    refine lv_goto (tgt := 216) hx hb dX7_nextToken_209 (by decide) ?_
                    refine g_put KX hh in_X7_nextToken_X7 tyX7 tyX7_ok nmX7 0 rfl rfl 9 (by decide) rfl rfl rfl (Nat.le_of_ble_eq_true rfl) (List.mem_of_getElem? (i := 8) rfl) (w' := (WM cI cZ cC cH o a_clock a_note a_text a_read a_fit a_shown a_image a_isKept a_row a_best m_told m_isRead1 m_clock m_note m_noted m_bytes m_text w_m_position_6 w_m_position_1 (-4) 0 0 m_faultAt m_readMany m_readTold m_read m_fit m_shown m_image m_isKept m_row m_best m_againAt m_againStep m_orderMany m_orderLeast)) rfl rfl dX7_nextToken_216 (fun H locs hh => ?_)
                    refine lv_goto (tgt := 394) hx hb dX7_nextToken_219 (by decide) ?_
                    exact RT _ _ _ _ _ _ hh (by rw [hF]) (Or.inr (Or.inr (Or.inl ⟨rfl, rfl, dX7_nextToken_394, rfl⟩)))
                refine lv_icmp_ge (tgt := 191) hx hb dX7_nextToken_109 (by decide) (fun c_109 => ?_) (fun c_109 => ?_)
                · replace hF := hF.trans (if_pos c_109)
                  have i_109 : m_bytes.toInt ≤ w_m_position_6.toInt := ti_le.mp c_109
                  exact K_191   hF _ _ _ hh (lv_sub hl [0] rfl)
                · replace hF := hF.trans (if_neg c_109)
                  have i_109 : w_m_position_6.toInt < m_bytes.toInt := ti_nle c_109
                  refine lv_aload_n hx hb dX7_nextToken_112 rfl (lv_at hl 0 rfl) ?_
                  refine g_get KX hh in_X7_nextToken_X7 0 rfl rfl 6 (by decide) rfl (List.mem_of_getElem? (i := 3) rfl) dX7_nextToken_113 ?_
                  refine lv_aload_n hx hb dX7_nextToken_116 rfl (lv_at hl 0 rfl) ?_
                  refine g_get KX hh in_X7_nextToken_X7 0 rfl rfl 7 (by decide) rfl (List.mem_of_getElem? (i := 1) rfl) dX7_nextToken_117 ?_
                  refine g_iald KX hh 3 0 rfl rfl (vp_in_iff.mpr (by omega)) dX7_nextToken_120 ?_
                  refine lv_bipush (v := 97) hx hb dX7_nextToken_121 (by decide) ?_
                  refine lv_bipush (v := 122) hx hb dX7_nextToken_123 (by decide) ?_
                  refine g_callS (As := [.int (m_text w_m_position_6.toNatClampNeg), .int 97, .int 122]) (rest := []) KX rfl ⟨Nat.le_of_ble_eq_true rfl, Nat.le_of_ble_eq_true rfl⟩ hh hl (c_X7_in l D cI cZ cC cH  (m_text w_m_position_6.toNatClampNeg) 97 122 ) JN.no 3 gX7_nextToken_X7_in rfl (by decide +kernel) ⟨Nat.le_of_ble_eq_true rfl, Nat.le_of_ble_eq_true rfl⟩ rfl rfl (Nat.le_of_ble_eq_true rfl) dX7_nextToken_125 (fun H locs hh => ?_)
                  refine W.eq (g2 := F0 m 128 ls [.int (F_X7_in (m_text w_m_position_6.toNatClampNeg) 97 122)]) rfl ?_
                  refine lv_if_eq (tgt := 191) hx hb dX7_nextToken_128 (by decide) (fun c_128 => ?_) (fun c_128 => ?_)
                  · replace hF := hF.trans (if_pos c_128)
                    have i_128 : (F_X7_in (m_text w_m_position_6.toNatClampNeg) 97 122).toInt = 0 := congrArg Int32.toInt c_128
                    exact K_191   hF _ _ _ hh (lv_sub hl [0] rfl)
                  · replace hF := hF.trans (if_neg c_128)
                    have i_128 : ¬ (F_X7_in (m_text w_m_position_6.toNatClampNeg) 97 122).toInt = 0 := ti_ne c_128
                    obtain ⟨k0_128, k1_128⟩ : (97 : Int) ≤ (m_text w_m_position_6.toNatClampNeg).toInt ∧ (m_text w_m_position_6.toNatClampNeg).toInt ≤ 122 := X7_in_in c_128
                    refine lv_aload_n hx hb dX7_nextToken_131 rfl (lv_at hl 0 rfl) ?_
                    refine lv_aload_n hx hb dX7_nextToken_132 rfl (lv_at hl 0 rfl) ?_
                    refine g_get KX hh in_X7_nextToken_X7 0 rfl rfl 7 (by decide) rfl (List.mem_of_getElem? (i := 1) rfl) dX7_nextToken_133 ?_
                    refine lv_aload_n hx hb dX7_nextToken_136 rfl (lv_at hl 0 rfl) ?_
                    refine g_get KX hh in_X7_nextToken_X7 0 rfl rfl 8 (by decide) rfl (List.mem_of_getElem? (i := 4) rfl) dX7_nextToken_137 ?_
                    refine lv_isub hx hb dX7_nextToken_140 ?_
                    refine lv_bipush (v := 9) hx hb dX7_nextToken_141 (by decide) ?_
                    have K_175 : ∀ (y0_8 : Int64) (_ : R = (F_X7_nextToken_175 w_m_position_6 ((F_X7_nextToken_101 m_bytes m_text w_m_position_1) n_101)) y0_8) (ls : Array Slot) (H : Heap) (locs : List Loc) (_ : HS D A s.heap (WM cI cZ cC cH o a_clock a_note a_text a_read a_fit a_shown a_image a_isKept a_row a_best m_told m_isRead1 m_clock m_note m_noted m_bytes m_text w_m_position_6 w_m_position_1 w_m_token_7 0 0 m_faultAt m_readMany m_readTold m_read m_fit m_shown m_image m_isKept m_row m_best m_againAt m_againStep m_orderMany m_orderLeast) H locs) (_ : lv_has ls 1 [(0, .ref o)]), W p l e { frames := 1, cells := 0, slots := 0, locals := 22 } s m args below meth c H locs 0 0 Q (F0 m 175 ls [.long y0_8, .ref o]) := by
                      intro y0_8 hF ls H locs hh hl
                      unfold F_X7_nextToken_175 at hF
                      refine g_put KX hh in_X7_nextToken_X7 tyX7 tyX7_ok nmX7 0 rfl rfl 9 (by decide) rfl rfl rfl (Nat.le_of_ble_eq_true rfl) (List.mem_of_getElem? (i := 8) rfl) (w' := (WM cI cZ cC cH o a_clock a_note a_text a_read a_fit a_shown a_image a_isKept a_row a_best m_told m_isRead1 m_clock m_note m_noted m_bytes m_text w_m_position_6 w_m_position_1 y0_8 0 0 m_faultAt m_readMany m_readTold m_read m_fit m_shown m_image m_isKept m_row m_best m_againAt m_againStep m_orderMany m_orderLeast)) rfl rfl dX7_nextToken_175 (fun H locs hh => ?_)
                      refine lv_aload_n hx hb dX7_nextToken_178 rfl (lv_at hl 0 rfl) ?_
                      refine lv_dup hx hb dX7_nextToken_179 rfl ?_
                      refine g_get KX hh in_X7_nextToken_X7 0 rfl rfl 7 (by decide) rfl (List.mem_of_getElem? (i := 1) rfl) dX7_nextToken_180 ?_
                      refine lv_iconst (v := 1) hx hb dX7_nextToken_183 (by decide) ?_
                      refine lv_iadd hx hb dX7_nextToken_184 ?_
                      refine g_put KX hh in_X7_nextToken_X7 tyX7 tyX7_ok nmX7 0 rfl rfl 7 (by decide) rfl rfl rfl (Nat.le_of_ble_eq_true rfl) (List.mem_of_getElem? (i := 1) rfl) (w' := (WM cI cZ cC cH o a_clock a_note a_text a_read a_fit a_shown a_image a_isKept a_row a_best m_told m_isRead1 m_clock m_note m_noted m_bytes m_text (w_m_position_6 + 1) w_m_position_1 y0_8 0 0 m_faultAt m_readMany m_readTold m_read m_fit m_shown m_image m_isKept m_row m_best m_againAt m_againStep m_orderMany m_orderLeast)) rfl rfl dX7_nextToken_185 (fun H locs hh => ?_)
                      refine lv_goto (tgt := 101) hx hb dX7_nextToken_188 (by decide) ?_
                      have e_inc : (w_m_position_6 + 1).toInt = _ := ti_inc (by omega)
                      exact ih_101 (w_m_position_6 + 1) y0_8 (by first | assumption | omega | decide) (by first | assumption | omega | decide) (by first | omega | simp_all) hF _ _ _ hh (lv_sub hl [0] rfl)
                    refine lv_icmp_ge (tgt := 172) hx hb dX7_nextToken_143 (by decide) (fun c_143 => ?_) (fun c_143 => ?_)
                    · replace hF := hF.trans (if_pos c_143)
                      have i_143 : 9 ≤ (w_m_position_6 - w_m_position_1).toInt := ti_le.mp c_143
                      refine lv_ldc2 (v := (-4)) hx hb KX.2.2.2.1 (KX.2.2.2.2.1 _ (List.mem_of_getElem? (i := 11) rfl)) dX7_nextToken_172 ?_
                      exact K_175 (-4)  hF _ _ _ hh (lv_sub hl [0] rfl)
                    · replace hF := hF.trans (if_neg c_143)
                      have i_143 : (w_m_position_6 - w_m_position_1).toInt < 9 := ti_nle c_143
                      refine lv_ldc2 (v := 27) hx hb KX.2.2.2.1 (KX.2.2.2.2.1 _ (List.mem_of_getElem? (i := 9) rfl)) dX7_nextToken_146 ?_
                      refine lv_aload_n hx hb dX7_nextToken_149 rfl (lv_at hl 0 rfl) ?_
                      refine g_get KX hh in_X7_nextToken_X7 0 rfl rfl 9 (by decide) rfl (List.mem_of_getElem? (i := 8) rfl) dX7_nextToken_150 ?_
                      refine lv_lmul hx hb dX7_nextToken_153 ?_
                      refine lv_aload_n hx hb dX7_nextToken_154 rfl (lv_at hl 0 rfl) ?_
                      refine g_get KX hh in_X7_nextToken_X7 0 rfl rfl 6 (by decide) rfl (List.mem_of_getElem? (i := 3) rfl) dX7_nextToken_155 ?_
                      refine lv_aload_n hx hb dX7_nextToken_158 rfl (lv_at hl 0 rfl) ?_
                      refine g_get KX hh in_X7_nextToken_X7 0 rfl rfl 7 (by decide) rfl (List.mem_of_getElem? (i := 1) rfl) dX7_nextToken_159 ?_
                      refine g_iald KX hh 3 0 rfl rfl (vp_in_iff.mpr (by omega)) dX7_nextToken_162 ?_
                      refine lv_i2l hx hb dX7_nextToken_163 rfl ?_
                      refine lv_ladd hx hb dX7_nextToken_164 ?_
                      refine lv_ldc2 (v := 96) hx hb KX.2.2.2.1 (KX.2.2.2.2.1 _ (List.mem_of_getElem? (i := 10) rfl)) dX7_nextToken_165 ?_
                      refine lv_lsub hx hb dX7_nextToken_168 ?_
                      refine lv_goto (tgt := 175) hx hb dX7_nextToken_169 (by decide) ?_
                      exact K_175 (((27 * w_m_token_7) + ((m_text w_m_position_6.toNatClampNeg).toInt64)) - 96)  hF _ _ _ hh (lv_sub hl [0] rfl)
            exact L_101 201 w_m_position_1 0 (by first | assumption | omega | decide) (by first | assumption | omega | decide) (by first | omega | decide | (simp; done)) hF _ _ _ hh (lv_sub hl [0] rfl)
        · replace hF := hF.trans (if_pos c_64)
          have i_64 : w_m_position_1.toInt = m_bytes.toInt := congrArg Int32.toInt c_64
          refine lv_aload_n hx hb dX7_nextToken_67 rfl (lv_at hl 0 rfl) ?_
          refine lv_ldc2 (v := (-2)) hx hb KX.2.2.2.1 (KX.2.2.2.2.1 _ (List.mem_of_getElem? (i := 7) rfl)) dX7_nextToken_68 ?_
          refine g_put KX hh in_X7_nextToken_X7 tyX7 tyX7_ok nmX7 0 rfl rfl 9 (by decide) rfl rfl rfl (Nat.le_of_ble_eq_true rfl) (List.mem_of_getElem? (i := 8) rfl) (w' := (WM cI cZ cC cH o a_clock a_note a_text a_read a_fit a_shown a_image a_isKept a_row a_best m_told m_isRead1 m_clock m_note m_noted m_bytes m_text w_m_position_1 w_m_position_1 (-2) 0 0 m_faultAt m_readMany m_readTold m_read m_fit m_shown m_image m_isKept m_row m_best m_againAt m_againStep m_orderMany m_orderLeast)) rfl rfl dX7_nextToken_71 (fun H locs hh => ?_)
          refine lv_goto (tgt := 394) hx hb dX7_nextToken_74 (by decide) ?_
          exact RT _ _ _ _ _ _ hh (by rw [hF]) (Or.inr (Or.inr (Or.inl ⟨rfl, rfl, dX7_nextToken_394, rfl⟩)))
      refine lv_icmp_ge (tgt := 38) hx hb dX7_nextToken_8 (by decide) (fun c_8 => ?_) (fun c_8 => ?_)
      · replace hF := hF.trans (if_pos c_8)
        have i_8 : m_bytes.toInt ≤ w_m_position_1.toInt := ti_le.mp c_8
        exact K_38   hF _ _ _ hh (lv_sub hl [0] rfl)
      · replace hF := hF.trans (if_neg c_8)
        have i_8 : w_m_position_1.toInt < m_bytes.toInt := ti_nle c_8
        refine lv_aload_n hx hb dX7_nextToken_11 rfl (lv_at hl 0 rfl) ?_
        refine g_get KX hh in_X7_nextToken_X7 0 rfl rfl 6 (by decide) rfl (List.mem_of_getElem? (i := 3) rfl) dX7_nextToken_12 ?_
        refine lv_aload_n hx hb dX7_nextToken_15 rfl (lv_at hl 0 rfl) ?_
        refine g_get KX hh in_X7_nextToken_X7 0 rfl rfl 7 (by decide) rfl (List.mem_of_getElem? (i := 1) rfl) dX7_nextToken_16 ?_
        refine g_iald KX hh 3 0 rfl rfl (vp_in_iff.mpr (by omega)) dX7_nextToken_19 ?_
        refine lv_bipush (v := 32) hx hb dX7_nextToken_20 (by decide) ?_
        refine lv_icmp_ne (tgt := 38) hx hb dX7_nextToken_22 (by decide) (fun c_22 => ?_) (fun c_22 => ?_)
        · replace hF := hF.trans (if_neg c_22)
          have i_22 : ¬ (m_text w_m_position_1.toNatClampNeg).toInt = 32 := ti_ne c_22
          exact K_38   hF _ _ _ hh (lv_sub hl [0] rfl)
        · replace hF := hF.trans (if_pos c_22)
          have i_22 : (m_text w_m_position_1.toNatClampNeg).toInt = 32 := congrArg Int32.toInt c_22
          refine lv_aload_n hx hb dX7_nextToken_25 rfl (lv_at hl 0 rfl) ?_
          refine lv_dup hx hb dX7_nextToken_26 rfl ?_
          refine g_get KX hh in_X7_nextToken_X7 0 rfl rfl 7 (by decide) rfl (List.mem_of_getElem? (i := 1) rfl) dX7_nextToken_27 ?_
          refine lv_iconst (v := 1) hx hb dX7_nextToken_30 (by decide) ?_
          refine lv_iadd hx hb dX7_nextToken_31 ?_
          refine g_put KX hh in_X7_nextToken_X7 tyX7 tyX7_ok nmX7 0 rfl rfl 7 (by decide) rfl rfl rfl (Nat.le_of_ble_eq_true rfl) (List.mem_of_getElem? (i := 1) rfl) (w' := (WM cI cZ cC cH o a_clock a_note a_text a_read a_fit a_shown a_image a_isKept a_row a_best m_told m_isRead1 m_clock m_note m_noted m_bytes m_text (w_m_position_1 + 1) m_tokenAt m_token m_digits m_number m_faultAt m_readMany m_readTold m_read m_fit m_shown m_image m_isKept m_row m_best m_againAt m_againStep m_orderMany m_orderLeast)) rfl rfl dX7_nextToken_32 (fun H locs hh => ?_)
          refine lv_goto (tgt := 0) hx hb dX7_nextToken_35 (by decide) ?_
          have e_inc : (w_m_position_1 + 1).toInt = _ := ti_inc (by omega)
          exact ih_0 (w_m_position_1 + 1) (by first | assumption | omega | decide) (by first | assumption | omega | decide) (by first | omega | simp_all) hF _ _ _ hh (lv_sub hl [0] rfl)
  exact L_0 201 m_position (by first | assumption | omega | decide) (by first | assumption | omega | decide) (by first | omega | decide | (simp; done)) hF _ _ _ hh (lv_sub hl [0] rfl)
theorem PosOk.inc {b q : Int32} (h : PosOk b q) (hn : ¬ b ≤ q) : PosOk b (q + 1) := by
  obtain ⟨a, c, d⟩ := h
  have h1 := ti_nle hn
  have e := ti_inc (a := q) (by omega)
  exact ⟨by omega, by omega, d⟩
theorem PosOk.dec {b q : Int32} {n : Nat} (h : PosOk b q) (hn : ¬ b ≤ q) (hm : (b.toInt - q.toInt).toNat < n + 1) : (b.toInt - (q + 1).toInt).toNat < n := by
  obtain ⟨a, c, d⟩ := h
  have h1 := ti_nle hn
  have e := ti_inc (a := q) (by omega)
  omega
theorem nt_241 {b : Int32} {t : Nat → Int32} {p : Int32} : ∀ (n : Nat) (q d k : Int32), PosOk b q → (b.toInt - q.toInt).toNat < n → PosOk b (F_X7_nextToken_241 b t p n q d k).1 := by
  intro n
  induction n with
  | zero => intro q d k _ h; exact absurd h (Nat.not_lt_zero _)
  | succ n ih =>
    intro q d k h hm
    rw [F_X7_nextToken_241.eq_2]
    split
    · unfold F_X7_nextToken_333; split <;> exact h
    · rename_i hn
      split
      · unfold F_X7_nextToken_333; split <;> exact h
      · split <;> (unfold F_X7_nextToken_307; exact ih _ _ _ (h.inc hn) (h.dec hn hm))
theorem nt_101 {b : Int32} {t : Nat → Int32} {p : Int32} : ∀ (n : Nat) (q : Int32) (k : Int64), PosOk b q → (b.toInt - q.toInt).toNat < n → PosOk b (F_X7_nextToken_101 b t p n q k).1 := by
  intro n
  induction n with
  | zero => intro q k _ h; exact absurd h (Nat.not_lt_zero _)
  | succ n ih =>
    intro q k h hm
    rw [F_X7_nextToken_101.eq_2]
    split
    · unfold F_X7_nextToken_191; split <;> exact h
    · rename_i hn
      split
      · unfold F_X7_nextToken_191; split <;> exact h
      · split <;> (unfold F_X7_nextToken_175; exact ih _ _ (h.inc hn) (h.dec hn hm))
theorem nt_38 {b : Int32} {t : Nat → Int32} {p : Int32} (h : PosOk b p) : PosOk b (F_X7_nextToken_38 b t p).1 := by
  obtain ⟨h1, h2, h3⟩ := id h
  unfold F_X7_nextToken_38
  split
  · exact h
  · rename_i hn
    have hn : ¬ b ≤ p := fun hl => hn (Int32.toInt_inj.mp (Int.le_antisymm h2 (ti_le.mp hl)))
    split
    · split
      · split <;> exact h.inc hn
      · exact nt_241 _ _ _ _ h (by omega)
    · exact nt_101 _ _ _ h (by omega)
theorem nt_0 {b : Int32} {t : Nat → Int32} : ∀ (n : Nat) (q : Int32), PosOk b q → (b.toInt - q.toInt).toNat < n → PosOk b (F_X7_nextToken_0 b t n q).1 := by
  intro n
  induction n with
  | zero => intro q _ h; exact absurd h (Nat.not_lt_zero _)
  | succ n ih =>
    intro q h hm
    rw [F_X7_nextToken_0.eq_2]
    split
    · exact nt_38 h
    · rename_i hn
      split
      · exact ih _ (h.inc hn) (h.dec hn hm)
      · exact nt_38 h
theorem nt_ok {b : Int32} {t : Nat → Int32} {p : Int32} (h : PosOk b p) : PosOk b (F_X7_nextToken b t p).1 := by
  obtain ⟨h1, h2, h3⟩ := id h
  exact nt_0 _ _ h (by omega)
def F_X7_fails (m_tokenAt : Int32) : Int32 × Int32 := (0, m_tokenAt)
theorem in_X7_fails_X7 : ∀ x ∈ u_ws RX7 TX7 26, x ∈ wsX7_fails := by decide +kernel
set_option maxHeartbeats 8000000 in
set_option maxRecDepth 100000 in
theorem c_X7_fails (l : Launch) (D : va_G) (cI cZ cC cH : ClassId) (o a_clock a_note a_text a_read a_fit a_shown a_image a_isKept a_row a_best : Nat) (m_told : Int32) (m_isRead1 : Int32) (m_clock : Nat → Int32) (m_note : Nat → Int32) (m_noted : Int32) (m_bytes : Int32) (m_text : Nat → Int32) (m_position : Int32) (m_tokenAt : Int32) (m_token : Int64) (m_digits : Int32) (m_number : Int32) (m_faultAt : Int32) (m_readMany : Int32) (m_readTold : Int32) (m_read : Nat → Int32) (m_fit : Nat → Int32) (m_shown : Nat → Int32) (m_image : Nat → Int32) (m_isKept : Nat → Int32) (m_row : Nat → Int32) (m_best : Nat → Int32) (m_againAt : Int32) (m_againStep : Int32) (m_orderMany : Int32) (m_orderLeast : Int32)   : MC l D (TY cI cZ cC cH) yX7_fails wsX7_fails 0 0 [.ref o] (WM cI cZ cC cH o a_clock a_note a_text a_read a_fit a_shown a_image a_isKept a_row a_best m_told m_isRead1 m_clock m_note m_noted m_bytes m_text m_position m_tokenAt m_token m_digits m_number m_faultAt m_readMany m_readTold m_read m_fit m_shown m_image m_isKept m_row m_best m_againAt m_againStep m_orderMany m_orderLeast) (some (.int ((F_X7_fails m_tokenAt).1))) (WM cI cZ cC cH o a_clock a_note a_text a_read a_fit a_shown a_image a_isKept a_row a_best m_told m_isRead1 m_clock m_note m_noted m_bytes m_text m_position m_tokenAt m_token m_digits m_number (F_X7_fails m_tokenAt).2 m_readMany m_readTold m_read m_fit m_shown m_image m_isKept m_row m_best m_againAt m_againStep m_orderMany m_orderLeast) := by
  obtain ⟨R, hF⟩ : ∃ R, R = F_X7_fails m_tokenAt := ⟨_, rfl⟩
  rw [← hF]
  refine MC.of (cc := cX7_fails) (maxL := 1) (ret := (some .boolean)) RX7 rfl (by decide +kernel) rfl (Nat.le_of_ble_eq_true rfl) ?_
  intro p e s m args below meth c A Q KX RT hh ls hl
  have z0 : (0 : Int32).toInt = 0 := rfl
  have z1 : (1 : Int32).toInt = 1 := rfl
  have zm : (-1 : Int32).toInt = -1 := rfl
  have hx := KX.1
  have hb := KX.2.1
  have hl : lv_has ls 1 [(0, .ref o)] := hl
  unfold F_X7_fails at hF
  refine lv_aload_n hx hb dX7_fails_0 rfl (lv_at hl 0 rfl) ?_
  refine lv_aload_n hx hb dX7_fails_1 rfl (lv_at hl 0 rfl) ?_
  refine g_get KX hh in_X7_fails_X7 0 rfl rfl 8 (by decide) rfl (List.mem_of_getElem? (i := 1) rfl) dX7_fails_2 ?_
  refine g_put KX hh in_X7_fails_X7 tyX7 tyX7_ok nmX7 0 rfl rfl 12 (by decide) rfl rfl rfl (Nat.le_of_ble_eq_true rfl) (List.mem_of_getElem? (i := 2) rfl) (w' := (WM cI cZ cC cH o a_clock a_note a_text a_read a_fit a_shown a_image a_isKept a_row a_best m_told m_isRead1 m_clock m_note m_noted m_bytes m_text m_position m_tokenAt m_token m_digits m_number m_tokenAt m_readMany m_readTold m_read m_fit m_shown m_image m_isKept m_row m_best m_againAt m_againStep m_orderMany m_orderLeast)) rfl rfl dX7_fails_5 (fun H locs hh => ?_)
  refine lv_iconst (v := 0) hx hb dX7_fails_8 (by decide) ?_
  exact RT _ _ _ _ _ _ hh (by rw [hF]) (Or.inl ⟨_, rfl, by rw [hF], dX7_fails_9, Or.inr (Or.inl ⟨rfl, Or.inl rfl⟩)⟩)
theorem z_X7_fails (m_tokenAt : Int32) : (F_X7_fails m_tokenAt).1 = 0 ∨ (F_X7_fails m_tokenAt).1 = 1 := by
  unfold F_X7_fails
  repeat' split
  all_goals first | with_reducible assumption | ((try dsimp only); first | with_reducible exact Or.inl rfl | with_reducible exact Or.inr rfl | with_reducible assumption)
def F_X7_isNumber_c28 (m_read : Nat → Int32) (r1_1 : Int32 × Int32 × Int64 × Int32 × Int32) (r28_2 : Int32 × Int32) : Int32 × Int32 × Int32 × Int64 × Int32 × Int32 × Int32 × (Nat → Int32) := (r28_2.1, r1_1.1, r1_1.2.1, r1_1.2.2.1, r1_1.2.2.2.1, r1_1.2.2.2.2, r28_2.2, m_read)
def F_X7_isNumber_27 (m_read : Nat → Int32) (r1_1 : Int32 × Int32 × Int64 × Int32 × Int32)  : Int32 × Int32 × Int32 × Int64 × Int32 × Int32 × Int32 × (Nat → Int32) := (F_X7_isNumber_c28 m_read r1_1 (F_X7_fails r1_1.2.1))
def F_X7_isNumber_c1 (m_faultAt : Int32) (m_read : Nat → Int32) (x1 : Int32) (x2 : Int32) (x3 : Int32) (r1_1 : Int32 × Int32 × Int64 × Int32 × Int32) : Int32 × Int32 × Int32 × Int64 × Int32 × Int32 × Int32 × (Nat → Int32) := (if (lg_cmp r1_1.2.2.1 (-1)) = 0 then (if (F_X7_in r1_1.2.2.2.2 x2 x3) = 0 then F_X7_isNumber_27 m_read r1_1 else (1, r1_1.1, r1_1.2.1, r1_1.2.2.1, r1_1.2.2.2.1, r1_1.2.2.2.2, m_faultAt, upd m_read x1.toNatClampNeg r1_1.2.2.2.2)) else F_X7_isNumber_27 m_read r1_1)
def F_X7_isNumber (m_bytes : Int32) (m_text : Nat → Int32) (m_position : Int32) (m_faultAt : Int32) (m_read : Nat → Int32) (x1 : Int32) (x2 : Int32) (x3 : Int32) : Int32 × Int32 × Int32 × Int64 × Int32 × Int32 × Int32 × (Nat → Int32) := (F_X7_isNumber_c1 m_faultAt m_read x1 x2 x3 (F_X7_nextToken m_bytes m_text m_position))
theorem in_X7_isNumber_X7 : ∀ x ∈ u_ws RX7 TX7 26, x ∈ wsX7_isNumber := by decide +kernel
set_option maxHeartbeats 8000000 in
set_option maxRecDepth 100000 in
theorem c_X7_isNumber (l : Launch) (D : va_G) (cI cZ cC cH : ClassId) (o a_clock a_note a_text a_read a_fit a_shown a_image a_isKept a_row a_best : Nat) (m_told : Int32) (m_isRead1 : Int32) (m_clock : Nat → Int32) (m_note : Nat → Int32) (m_noted : Int32) (m_bytes : Int32) (m_text : Nat → Int32) (m_position : Int32) (m_tokenAt : Int32) (m_token : Int64) (m_digits : Int32) (m_number : Int32) (m_faultAt : Int32) (m_readMany : Int32) (m_readTold : Int32) (m_read : Nat → Int32) (m_fit : Nat → Int32) (m_shown : Nat → Int32) (m_image : Nat → Int32) (m_isKept : Nat → Int32) (m_row : Nat → Int32) (m_best : Nat → Int32) (m_againAt : Int32) (m_againStep : Int32) (m_orderMany : Int32) (m_orderLeast : Int32) (x1 : Int32) (x2 : Int32) (x3 : Int32) (hpos : PosOk m_bytes m_position) (hw0 : 0 ≤ x1.toInt) (hw1 : x1.toInt < 48) : MC l D (TY cI cZ cC cH) yX7_isNumber wsX7_isNumber 2 42 [.ref o, .int x1, .int x2, .int x3] (WM cI cZ cC cH o a_clock a_note a_text a_read a_fit a_shown a_image a_isKept a_row a_best m_told m_isRead1 m_clock m_note m_noted m_bytes m_text m_position m_tokenAt m_token m_digits m_number m_faultAt m_readMany m_readTold m_read m_fit m_shown m_image m_isKept m_row m_best m_againAt m_againStep m_orderMany m_orderLeast) (some (.int ((F_X7_isNumber m_bytes m_text m_position m_faultAt m_read x1 x2 x3).1))) (WM cI cZ cC cH o a_clock a_note a_text a_read a_fit a_shown a_image a_isKept a_row a_best m_told m_isRead1 m_clock m_note m_noted m_bytes m_text (F_X7_isNumber m_bytes m_text m_position m_faultAt m_read x1 x2 x3).2.1 (F_X7_isNumber m_bytes m_text m_position m_faultAt m_read x1 x2 x3).2.2.1 (F_X7_isNumber m_bytes m_text m_position m_faultAt m_read x1 x2 x3).2.2.2.1 (F_X7_isNumber m_bytes m_text m_position m_faultAt m_read x1 x2 x3).2.2.2.2.1 (F_X7_isNumber m_bytes m_text m_position m_faultAt m_read x1 x2 x3).2.2.2.2.2.1 (F_X7_isNumber m_bytes m_text m_position m_faultAt m_read x1 x2 x3).2.2.2.2.2.2.1 m_readMany m_readTold (F_X7_isNumber m_bytes m_text m_position m_faultAt m_read x1 x2 x3).2.2.2.2.2.2.2 m_fit m_shown m_image m_isKept m_row m_best m_againAt m_againStep m_orderMany m_orderLeast) := by
  obtain ⟨R, hF⟩ : ∃ R, R = F_X7_isNumber m_bytes m_text m_position m_faultAt m_read x1 x2 x3 := ⟨_, rfl⟩
  rw [← hF]
  refine MC.of (cc := cX7_isNumber) (maxL := 4) (ret := (some .boolean)) RX7 rfl (by decide +kernel) rfl (Nat.le_of_ble_eq_true rfl) ?_
  intro p e s m args below meth c A Q KX RT hh ls hl
  have z0 : (0 : Int32).toInt = 0 := rfl
  have z1 : (1 : Int32).toInt = 1 := rfl
  have zm : (-1 : Int32).toInt = -1 := rfl
  have hx := KX.1
  have hb := KX.2.1
  have hl : lv_has ls 4 [(0, .ref o), (1, .int x1), (2, .int x2), (3, .int x3)] := hl
  unfold F_X7_isNumber at hF
  refine lv_aload_n hx hb dX7_isNumber_0 rfl (lv_at hl 0 rfl) ?_
  refine g_callV (As := []) (rest := []) KX rfl ⟨Nat.le_of_ble_eq_true rfl, Nat.le_of_ble_eq_true rfl⟩ hh hl (c_X7_nextToken l D cI cZ cC cH o a_clock a_note a_text a_read a_fit a_shown a_image a_isKept a_row a_best m_told m_isRead1 m_clock m_note m_noted m_bytes m_text m_position m_tokenAt m_token m_digits m_number m_faultAt m_readMany m_readTold m_read m_fit m_shown m_image m_isKept m_row m_best m_againAt m_againStep m_orderMany m_orderLeast  (by first | assumption | omega | decide)) JN.all 0 gX7_isNumber_X7_nextToken rfl (by decide +kernel) ⟨Nat.le_of_ble_eq_true rfl, Nat.le_of_ble_eq_true rfl⟩ 0 7 rfl rfl rfl rfl rfl (Nat.le_of_ble_eq_true rfl) dX7_isNumber_1 (fun H locs hh => ?_)
  refine W.eq (g2 := F0 m 4 ls []) rfl ?_
  generalize q_1 : F_X7_nextToken m_bytes m_text m_position = r1_1 at hh hF ⊢
  unfold F_X7_isNumber_c1 at hF
  refine lv_aload_n hx hb dX7_isNumber_4 rfl (lv_at hl 0 rfl) ?_
  refine g_get KX hh in_X7_isNumber_X7 0 rfl rfl 9 (by decide) rfl (List.mem_of_getElem? (i := 1) rfl) dX7_isNumber_5 ?_
  refine lv_ldc2 (v := (-1)) hx hb KX.2.2.2.1 (KX.2.2.2.2.1 _ (List.mem_of_getElem? (i := 2) rfl)) dX7_isNumber_8 ?_
  refine W.lcmp hx hb dX7_isNumber_11 ?_
  have K_27 : ∀ (_ : R = (F_X7_isNumber_27 m_read r1_1)) (ls : Array Slot) (H : Heap) (locs : List Loc) (_ : HS D A s.heap (WM cI cZ cC cH o a_clock a_note a_text a_read a_fit a_shown a_image a_isKept a_row a_best m_told m_isRead1 m_clock m_note m_noted m_bytes m_text r1_1.1 r1_1.2.1 r1_1.2.2.1 r1_1.2.2.2.1 r1_1.2.2.2.2 m_faultAt m_readMany m_readTold m_read m_fit m_shown m_image m_isKept m_row m_best m_againAt m_againStep m_orderMany m_orderLeast) H locs) (_ : lv_has ls 4 [(0, .ref o), (1, .int x1), (2, .int x2), (3, .int x3)]), W p l e { frames := 2, cells := 0, slots := 0, locals := 42 } s m args below meth c H locs 0 0 Q (F0 m 27 ls []) := by
    intro  hF ls H locs hh hl
    unfold F_X7_isNumber_27 at hF
    refine lv_aload_n hx hb dX7_isNumber_27 rfl (lv_at hl 0 rfl) ?_
    refine g_callV (As := []) (rest := []) KX rfl ⟨Nat.le_of_ble_eq_true rfl, Nat.le_of_ble_eq_true rfl⟩ hh hl (c_X7_fails l D cI cZ cC cH o a_clock a_note a_text a_read a_fit a_shown a_image a_isKept a_row a_best m_told m_isRead1 m_clock m_note m_noted m_bytes m_text r1_1.1 r1_1.2.1 r1_1.2.2.1 r1_1.2.2.2.1 r1_1.2.2.2.2 m_faultAt m_readMany m_readTold m_read m_fit m_shown m_image m_isKept m_row m_best m_againAt m_againStep m_orderMany m_orderLeast  ) JN.all 0 gX7_isNumber_X7_fails rfl (by decide +kernel) ⟨Nat.le_of_ble_eq_true rfl, Nat.le_of_ble_eq_true rfl⟩ 0 7 rfl rfl rfl rfl rfl (Nat.le_of_ble_eq_true rfl) dX7_isNumber_28 (fun H locs hh => ?_)
    refine W.eq (g2 := F0 m 31 ls [.int ((F_X7_fails r1_1.2.1).1)]) rfl ?_
    generalize q_28 : F_X7_fails r1_1.2.1 = r28_2 at hh hF ⊢
    have hz_28 : r28_2.1 = 0 ∨ r28_2.1 = 1 := by rw [← q_28]; exact z_X7_fails _
    unfold F_X7_isNumber_c28 at hF
    exact RT _ _ _ _ _ _ hh (by rw [hF]) (Or.inl ⟨_, rfl, by rw [hF], dX7_isNumber_31, Or.inr (Or.inl ⟨rfl, (by first | assumption | omega | decide)⟩)⟩)
  refine lv_if_ne (tgt := 27) hx hb dX7_isNumber_12 (by decide) (fun c_12 => ?_) (fun c_12 => ?_)
  · replace hF := hF.trans (if_neg c_12)
    exact K_27   hF _ _ _ hh (lv_sub hl [0, 1, 2, 3] rfl)
  · replace hF := hF.trans (if_pos c_12)
    refine lv_aload_n hx hb dX7_isNumber_15 rfl (lv_at hl 0 rfl) ?_
    refine g_get KX hh in_X7_isNumber_X7 0 rfl rfl 11 (by decide) rfl (List.mem_of_getElem? (i := 3) rfl) dX7_isNumber_16 ?_
    refine lv_iload_n hx hb dX7_isNumber_19 rfl (lv_at hl 2 rfl) ?_
    refine lv_iload_n hx hb dX7_isNumber_20 rfl (lv_at hl 3 rfl) ?_
    refine g_callS (As := [.int r1_1.2.2.2.2, .int x2, .int x3]) (rest := []) KX rfl ⟨Nat.le_of_ble_eq_true rfl, Nat.le_of_ble_eq_true rfl⟩ hh hl (c_X7_in l D cI cZ cC cH  r1_1.2.2.2.2 x2 x3 ) JN.no 3 gX7_isNumber_X7_in rfl (by decide +kernel) ⟨Nat.le_of_ble_eq_true rfl, Nat.le_of_ble_eq_true rfl⟩ rfl rfl (Nat.le_of_ble_eq_true rfl) dX7_isNumber_21 (fun H locs hh => ?_)
    refine W.eq (g2 := F0 m 24 ls [.int (F_X7_in r1_1.2.2.2.2 x2 x3)]) rfl ?_
    refine lv_if_ne (tgt := 32) hx hb dX7_isNumber_24 (by decide) (fun c_24 => ?_) (fun c_24 => ?_)
    · replace hF := hF.trans (if_neg c_24)
      have i_24 : ¬ (F_X7_in r1_1.2.2.2.2 x2 x3).toInt = 0 := ti_ne c_24
      skip
      refine lv_aload_n hx hb dX7_isNumber_32 rfl (lv_at hl 0 rfl) ?_
      refine g_get KX hh in_X7_isNumber_X7 0 rfl rfl 15 (by decide) rfl (List.mem_of_getElem? (i := 4) rfl) dX7_isNumber_33 ?_
      refine lv_iload_n hx hb dX7_isNumber_36 rfl (lv_at hl 1 rfl) ?_
      refine lv_aload_n hx hb dX7_isNumber_37 rfl (lv_at hl 0 rfl) ?_
      refine g_get KX hh in_X7_isNumber_X7 0 rfl rfl 11 (by decide) rfl (List.mem_of_getElem? (i := 3) rfl) dX7_isNumber_38 ?_
      refine g_iast KX hh 4 0 rfl rfl (vp_in_iff.mpr (by omega)) (w' := (WM cI cZ cC cH o a_clock a_note a_text a_read a_fit a_shown a_image a_isKept a_row a_best m_told m_isRead1 m_clock m_note m_noted m_bytes m_text r1_1.1 r1_1.2.1 r1_1.2.2.1 r1_1.2.2.2.1 r1_1.2.2.2.2 m_faultAt m_readMany m_readTold (upd m_read x1.toNatClampNeg r1_1.2.2.2.2) m_fit m_shown m_image m_isKept m_row m_best m_againAt m_againStep m_orderMany m_orderLeast)) rfl dX7_isNumber_41 (fun H locs hh => ?_)
      refine lv_iconst (v := 1) hx hb dX7_isNumber_42 (by decide) ?_
      exact RT _ _ _ _ _ _ hh (by rw [hF]) (Or.inl ⟨_, rfl, by rw [hF], dX7_isNumber_43, Or.inr (Or.inl ⟨rfl, Or.inr rfl⟩)⟩)
    · replace hF := hF.trans (if_pos c_24)
      have i_24 : (F_X7_in r1_1.2.2.2.2 x2 x3).toInt = 0 := congrArg Int32.toInt c_24
      exact K_27   hF _ _ _ hh (lv_sub hl [0, 1, 2, 3] rfl)
theorem zb_F_X7_isNumber_c28 {m_read : Nat → Int32} {r1_1 : Int32 × Int32 × Int64 × Int32 × Int32} {r28_2 : Int32 × Int32} (hz0 : r28_2.1 = 0 ∨ r28_2.1 = 1) : (F_X7_isNumber_c28 m_read r1_1 r28_2).1 = 0 ∨ (F_X7_isNumber_c28 m_read r1_1 r28_2).1 = 1 := by
  unfold F_X7_isNumber_c28
  repeat' split
  all_goals first | with_reducible assumption | with_reducible exact z_X7_in _ _ _ | with_reducible exact z_X7_fails _ | ((try dsimp only); first | with_reducible exact Or.inl rfl | with_reducible exact Or.inr rfl | with_reducible assumption)
theorem zb_F_X7_isNumber_27 {m_read : Nat → Int32} {r1_1 : Int32 × Int32 × Int64 × Int32 × Int32}  : (F_X7_isNumber_27 m_read r1_1).1 = 0 ∨ (F_X7_isNumber_27 m_read r1_1).1 = 1 := by
  unfold F_X7_isNumber_27
  repeat' split
  all_goals first | with_reducible assumption | with_reducible exact z_X7_in _ _ _ | with_reducible exact z_X7_fails _ | with_reducible exact zb_F_X7_isNumber_c28 (by with_reducible assumption) | with_reducible exact zb_F_X7_isNumber_c28 (Or.inl rfl) | with_reducible exact zb_F_X7_isNumber_c28 (Or.inr rfl) | with_reducible exact zb_F_X7_isNumber_c28 (z_X7_fails _) | ((try dsimp only); first | with_reducible exact Or.inl rfl | with_reducible exact Or.inr rfl | with_reducible assumption)
theorem zb_F_X7_isNumber_c1 {m_faultAt : Int32} {m_read : Nat → Int32} {x1 : Int32} {x2 : Int32} {x3 : Int32} {r1_1 : Int32 × Int32 × Int64 × Int32 × Int32} : (F_X7_isNumber_c1 m_faultAt m_read x1 x2 x3 r1_1).1 = 0 ∨ (F_X7_isNumber_c1 m_faultAt m_read x1 x2 x3 r1_1).1 = 1 := by
  unfold F_X7_isNumber_c1
  repeat' split
  all_goals first | with_reducible assumption | with_reducible exact z_X7_in _ _ _ | with_reducible exact z_X7_fails _ | with_reducible exact zb_F_X7_isNumber_c28 (by with_reducible assumption) | with_reducible exact zb_F_X7_isNumber_c28 (Or.inl rfl) | with_reducible exact zb_F_X7_isNumber_c28 (Or.inr rfl) | with_reducible exact zb_F_X7_isNumber_c28 (z_X7_fails _) | with_reducible exact zb_F_X7_isNumber_27 | ((try dsimp only); first | with_reducible exact Or.inl rfl | with_reducible exact Or.inr rfl | with_reducible assumption)
theorem z_X7_isNumber (m_bytes : Int32) (m_text : Nat → Int32) (m_position : Int32) (m_faultAt : Int32) (m_read : Nat → Int32) (x1 : Int32) (x2 : Int32) (x3 : Int32) : (F_X7_isNumber m_bytes m_text m_position m_faultAt m_read x1 x2 x3).1 = 0 ∨ (F_X7_isNumber m_bytes m_text m_position m_faultAt m_read x1 x2 x3).1 = 1 := by
  unfold F_X7_isNumber
  repeat' split
  all_goals first | with_reducible assumption | with_reducible exact z_X7_in _ _ _ | with_reducible exact z_X7_fails _ | with_reducible exact zb_F_X7_isNumber_c28 (by with_reducible assumption) | with_reducible exact zb_F_X7_isNumber_c28 (Or.inl rfl) | with_reducible exact zb_F_X7_isNumber_c28 (Or.inr rfl) | with_reducible exact zb_F_X7_isNumber_c28 (z_X7_fails _) | with_reducible exact zb_F_X7_isNumber_27 | with_reducible exact zb_F_X7_isNumber_c1 | ((try dsimp only); first | with_reducible exact Or.inl rfl | with_reducible exact Or.inr rfl | with_reducible assumption)
theorem okb_F_X7_isNumber_c28 {m_read : Nat → Int32} {r1_1 : Int32 × Int32 × Int64 × Int32 × Int32} {r28_2 : Int32 × Int32} {b_ : Int32} (hq0 : PosOk b_ r1_1.1) : PosOk b_ (F_X7_isNumber_c28 m_read r1_1 r28_2).2.1 := by
  unfold F_X7_isNumber_c28
  repeat' split
  all_goals first | with_reducible assumption | with_reducible exact nt_ok (by with_reducible assumption) | ((try dsimp only); with_reducible assumption)
theorem okb_F_X7_isNumber_27 {m_read : Nat → Int32} {r1_1 : Int32 × Int32 × Int64 × Int32 × Int32}  {b_ : Int32} (hq0 : PosOk b_ r1_1.1) : PosOk b_ (F_X7_isNumber_27 m_read r1_1).2.1 := by
  unfold F_X7_isNumber_27
  repeat' split
  all_goals first | with_reducible assumption | with_reducible exact nt_ok (by with_reducible assumption) | with_reducible exact okb_F_X7_isNumber_c28 (by first | with_reducible assumption | with_reducible exact nt_ok (by with_reducible assumption)) | ((try dsimp only); with_reducible assumption)
theorem okb_F_X7_isNumber_c1 {m_faultAt : Int32} {m_read : Nat → Int32} {x1 : Int32} {x2 : Int32} {x3 : Int32} {r1_1 : Int32 × Int32 × Int64 × Int32 × Int32} {b_ : Int32} (hq0 : PosOk b_ r1_1.1) : PosOk b_ (F_X7_isNumber_c1 m_faultAt m_read x1 x2 x3 r1_1).2.1 := by
  unfold F_X7_isNumber_c1
  repeat' split
  all_goals first | with_reducible assumption | with_reducible exact nt_ok (by with_reducible assumption) | with_reducible exact okb_F_X7_isNumber_c28 (by first | with_reducible assumption | with_reducible exact nt_ok (by with_reducible assumption)) | with_reducible exact okb_F_X7_isNumber_27 (by first | with_reducible assumption | with_reducible exact nt_ok (by with_reducible assumption)) | ((try dsimp only); with_reducible assumption)
theorem ok_X7_isNumber {m_bytes : Int32} {m_text : Nat → Int32} {m_position : Int32} {m_faultAt : Int32} {m_read : Nat → Int32} {x1 : Int32} {x2 : Int32} {x3 : Int32} (hq0 : PosOk m_bytes m_position) : PosOk m_bytes (F_X7_isNumber m_bytes m_text m_position m_faultAt m_read x1 x2 x3).2.1 := by
  unfold F_X7_isNumber
  repeat' split
  all_goals first | with_reducible assumption | with_reducible exact nt_ok (by with_reducible assumption) | with_reducible exact okb_F_X7_isNumber_c28 (by first | with_reducible assumption | with_reducible exact nt_ok (by with_reducible assumption)) | with_reducible exact okb_F_X7_isNumber_27 (by first | with_reducible assumption | with_reducible exact nt_ok (by with_reducible assumption)) | with_reducible exact okb_F_X7_isNumber_c1 (by first | with_reducible assumption | with_reducible exact nt_ok (by with_reducible assumption)) | ((try dsimp only); with_reducible assumption)
end
section
def F_X7_isGoing_81 (m_readTold : Int32) (x1 : Int32) (y0_2 : Int32) (w_m_position_3 : Int32) (w_m_tokenAt_4 : Int32) (w_m_token_5 : Int64) (w_m_digits_6 : Int32) (w_m_number_7 : Int32) (w_m_faultAt_8 : Int32) (w_m_read_9 : Nat → Int32) : Int32 × Int32 × Int32 × Int64 × Int32 × Int32 × Int32 × Int32 × (Nat → Int32) := (if y0_2 = 0 then (y0_2, w_m_position_3, w_m_tokenAt_4, w_m_token_5, w_m_digits_6, w_m_number_7, w_m_faultAt_8, m_readTold, w_m_read_9) else (y0_2, w_m_position_3, w_m_tokenAt_4, w_m_token_5, w_m_digits_6, w_m_number_7, w_m_faultAt_8, m_readTold ||| (1 <<< ((w_m_read_9 (x1 + 1).toNatClampNeg) &&& 31)), w_m_read_9))
def F_X7_isGoing_80 (m_readTold : Int32) (x1 : Int32) (w_m_position_10 : Int32) (w_m_tokenAt_11 : Int32) (w_m_token_12 : Int64) (w_m_digits_13 : Int32) (w_m_number_14 : Int32) (w_m_faultAt_15 : Int32) (w_m_read_16 : Nat → Int32) : Int32 × Int32 × Int32 × Int64 × Int32 × Int32 × Int32 × Int32 × (Nat → Int32) := (F_X7_isGoing_81 m_readTold x1 0 w_m_position_10 w_m_tokenAt_11 w_m_token_12 w_m_digits_13 w_m_number_14 w_m_faultAt_15 w_m_read_16)
def F_X7_isGoing_c70 (m_readTold : Int32) (x1 : Int32) (r70_20 : Int32 × Int32 × Int32 × Int64 × Int32 × Int32 × Int32 × (Nat → Int32)) : Int32 × Int32 × Int32 × Int64 × Int32 × Int32 × Int32 × Int32 × (Nat → Int32) := (if r70_20.1 = 0 then (F_X7_isGoing_80 m_readTold x1 r70_20.2.1 r70_20.2.2.1 r70_20.2.2.2.1 r70_20.2.2.2.2.1 r70_20.2.2.2.2.2.1 r70_20.2.2.2.2.2.2.1 r70_20.2.2.2.2.2.2.2) else (F_X7_isGoing_81 m_readTold x1 1 r70_20.2.1 r70_20.2.2.1 r70_20.2.2.2.1 r70_20.2.2.2.2.1 r70_20.2.2.2.2.2.1 r70_20.2.2.2.2.2.2.1 r70_20.2.2.2.2.2.2.2))
def F_X7_isGoing_c49 (m_bytes : Int32) (m_text : Nat → Int32) (m_readTold : Int32) (x1 : Int32) (r49_19 : Int32 × Int32 × Int32 × Int64 × Int32 × Int32 × Int32 × (Nat → Int32)) : Int32 × Int32 × Int32 × Int64 × Int32 × Int32 × Int32 × Int32 × (Nat → Int32) := (if r49_19.1 = 0 then (F_X7_isGoing_80 m_readTold x1 r49_19.2.1 r49_19.2.2.1 r49_19.2.2.2.1 r49_19.2.2.2.2.1 r49_19.2.2.2.2.2.1 r49_19.2.2.2.2.2.2.1 r49_19.2.2.2.2.2.2.2) else (F_X7_isGoing_c70 m_readTold x1 (F_X7_isNumber m_bytes m_text r49_19.2.1 r49_19.2.2.2.2.2.2.1 r49_19.2.2.2.2.2.2.2 (x1 + 5) (r49_19.2.2.2.2.2.2.2 (x1 + 4).toNatClampNeg) 240)))
def F_X7_isGoing_c35 (m_bytes : Int32) (m_text : Nat → Int32) (m_readTold : Int32) (x1 : Int32) (r35_18 : Int32 × Int32 × Int32 × Int64 × Int32 × Int32 × Int32 × (Nat → Int32)) : Int32 × Int32 × Int32 × Int64 × Int32 × Int32 × Int32 × Int32 × (Nat → Int32) := (if r35_18.1 = 0 then (F_X7_isGoing_80 m_readTold x1 r35_18.2.1 r35_18.2.2.1 r35_18.2.2.2.1 r35_18.2.2.2.2.1 r35_18.2.2.2.2.2.1 r35_18.2.2.2.2.2.2.1 r35_18.2.2.2.2.2.2.2) else (F_X7_isGoing_c49 m_bytes m_text m_readTold x1 (F_X7_isNumber m_bytes m_text r35_18.2.1 r35_18.2.2.2.2.2.2.1 r35_18.2.2.2.2.2.2.2 (x1 + 4) 0 240)))
def F_X7_isGoing_c21 (m_bytes : Int32) (m_text : Nat → Int32) (m_readTold : Int32) (x1 : Int32) (r21_17 : Int32 × Int32 × Int32 × Int64 × Int32 × Int32 × Int32 × (Nat → Int32)) : Int32 × Int32 × Int32 × Int64 × Int32 × Int32 × Int32 × Int32 × (Nat → Int32) := (if r21_17.1 = 0 then (F_X7_isGoing_80 m_readTold x1 r21_17.2.1 r21_17.2.2.1 r21_17.2.2.2.1 r21_17.2.2.2.2.1 r21_17.2.2.2.2.2.1 r21_17.2.2.2.2.2.2.1 r21_17.2.2.2.2.2.2.2) else (F_X7_isGoing_c35 m_bytes m_text m_readTold x1 (F_X7_isNumber m_bytes m_text r21_17.2.1 r21_17.2.2.2.2.2.2.1 r21_17.2.2.2.2.2.2.2 (x1 + 3) 0 719)))
def F_X7_isGoing_c7 (m_bytes : Int32) (m_text : Nat → Int32) (m_readTold : Int32) (x1 : Int32) (r7_1 : Int32 × Int32 × Int32 × Int64 × Int32 × Int32 × Int32 × (Nat → Int32)) : Int32 × Int32 × Int32 × Int64 × Int32 × Int32 × Int32 × Int32 × (Nat → Int32) := (if r7_1.1 = 0 then (F_X7_isGoing_80 m_readTold x1 r7_1.2.1 r7_1.2.2.1 r7_1.2.2.2.1 r7_1.2.2.2.2.1 r7_1.2.2.2.2.2.1 r7_1.2.2.2.2.2.2.1 r7_1.2.2.2.2.2.2.2) else (F_X7_isGoing_c21 m_bytes m_text m_readTold x1 (F_X7_isNumber m_bytes m_text r7_1.2.1 r7_1.2.2.2.2.2.2.1 r7_1.2.2.2.2.2.2.2 (x1 + 2) 0 4319)))
def F_X7_isGoing (m_bytes : Int32) (m_text : Nat → Int32) (m_position : Int32) (m_faultAt : Int32) (m_readTold : Int32) (m_read : Nat → Int32) (x1 : Int32) : Int32 × Int32 × Int32 × Int64 × Int32 × Int32 × Int32 × Int32 × (Nat → Int32) := (F_X7_isGoing_c7 m_bytes m_text m_readTold x1 (F_X7_isNumber m_bytes m_text m_position m_faultAt m_read (x1 + 1) 0 7))
theorem in_X7_isGoing_X7 : ∀ x ∈ u_ws RX7 TX7 26, x ∈ wsX7_isGoing := by decide +kernel
set_option maxHeartbeats 8000000 in
set_option maxRecDepth 100000 in
theorem c_X7_isGoing (l : Launch) (D : va_G) (cI cZ cC cH : ClassId) (o a_clock a_note a_text a_read a_fit a_shown a_image a_isKept a_row a_best : Nat) (m_told : Int32) (m_isRead1 : Int32) (m_clock : Nat → Int32) (m_note : Nat → Int32) (m_noted : Int32) (m_bytes : Int32) (m_text : Nat → Int32) (m_position : Int32) (m_tokenAt : Int32) (m_token : Int64) (m_digits : Int32) (m_number : Int32) (m_faultAt : Int32) (m_readMany : Int32) (m_readTold : Int32) (m_read : Nat → Int32) (m_fit : Nat → Int32) (m_shown : Nat → Int32) (m_image : Nat → Int32) (m_isKept : Nat → Int32) (m_row : Nat → Int32) (m_best : Nat → Int32) (m_againAt : Int32) (m_againStep : Int32) (m_orderMany : Int32) (m_orderLeast : Int32) (x1 : Int32) (hpos : PosOk m_bytes m_position) (hw0 : 0 ≤ x1.toInt) (hw1 : x1.toInt ≤ 42) : MC l D (TY cI cZ cC cH) yX7_isGoing wsX7_isGoing 3 65 [.ref o, .int x1] (WM cI cZ cC cH o a_clock a_note a_text a_read a_fit a_shown a_image a_isKept a_row a_best m_told m_isRead1 m_clock m_note m_noted m_bytes m_text m_position m_tokenAt m_token m_digits m_number m_faultAt m_readMany m_readTold m_read m_fit m_shown m_image m_isKept m_row m_best m_againAt m_againStep m_orderMany m_orderLeast) (some (.int ((F_X7_isGoing m_bytes m_text m_position m_faultAt m_readTold m_read x1).1))) (WM cI cZ cC cH o a_clock a_note a_text a_read a_fit a_shown a_image a_isKept a_row a_best m_told m_isRead1 m_clock m_note m_noted m_bytes m_text (F_X7_isGoing m_bytes m_text m_position m_faultAt m_readTold m_read x1).2.1 (F_X7_isGoing m_bytes m_text m_position m_faultAt m_readTold m_read x1).2.2.1 (F_X7_isGoing m_bytes m_text m_position m_faultAt m_readTold m_read x1).2.2.2.1 (F_X7_isGoing m_bytes m_text m_position m_faultAt m_readTold m_read x1).2.2.2.2.1 (F_X7_isGoing m_bytes m_text m_position m_faultAt m_readTold m_read x1).2.2.2.2.2.1 (F_X7_isGoing m_bytes m_text m_position m_faultAt m_readTold m_read x1).2.2.2.2.2.2.1 m_readMany (F_X7_isGoing m_bytes m_text m_position m_faultAt m_readTold m_read x1).2.2.2.2.2.2.2.1 (F_X7_isGoing m_bytes m_text m_position m_faultAt m_readTold m_read x1).2.2.2.2.2.2.2.2 m_fit m_shown m_image m_isKept m_row m_best m_againAt m_againStep m_orderMany m_orderLeast) := by
  obtain ⟨R, hF⟩ : ∃ R, R = F_X7_isGoing m_bytes m_text m_position m_faultAt m_readTold m_read x1 := ⟨_, rfl⟩
  rw [← hF]
  refine MC.of (cc := cX7_isGoing) (maxL := 3) (ret := (some .boolean)) RX7 rfl (by decide +kernel) rfl (Nat.le_of_ble_eq_true rfl) ?_
  intro p e s m args below meth c A Q KX RT hh ls hl
  have z0 : (0 : Int32).toInt = 0 := rfl
  have z1 : (1 : Int32).toInt = 1 := rfl
  have zm : (-1 : Int32).toInt = -1 := rfl
  have hx := KX.1
  have hb := KX.2.1
  have hl : lv_has ls 3 [(0, .ref o), (1, .int x1)] := hl
  unfold F_X7_isGoing at hF
  have e1 := ti_addc x1 1 1 rfl (by omega) (by omega)
  have e2 := ti_addc x1 2 2 rfl (by omega) (by omega)
  have e3 := ti_addc x1 3 3 rfl (by omega) (by omega)
  have e4 := ti_addc x1 4 4 rfl (by omega) (by omega)
  have e5 := ti_addc x1 5 5 rfl (by omega) (by omega)
  refine lv_aload_n hx hb dX7_isGoing_0 rfl (lv_at hl 0 rfl) ?_
  refine lv_iload_n hx hb dX7_isGoing_1 rfl (lv_at hl 1 rfl) ?_
  refine lv_iconst (v := 1) hx hb dX7_isGoing_2 (by decide) ?_
  refine lv_iadd hx hb dX7_isGoing_3 ?_
  refine lv_iconst (v := 0) hx hb dX7_isGoing_4 (by decide) ?_
  refine lv_bipush (v := 7) hx hb dX7_isGoing_5 (by decide) ?_
  refine g_callV (As := [.int (x1 + 1), .int 0, .int 7]) (rest := []) KX rfl ⟨Nat.le_of_ble_eq_true rfl, Nat.le_of_ble_eq_true rfl⟩ hh hl (c_X7_isNumber l D cI cZ cC cH o a_clock a_note a_text a_read a_fit a_shown a_image a_isKept a_row a_best m_told m_isRead1 m_clock m_note m_noted m_bytes m_text m_position m_tokenAt m_token m_digits m_number m_faultAt m_readMany m_readTold m_read m_fit m_shown m_image m_isKept m_row m_best m_againAt m_againStep m_orderMany m_orderLeast (x1 + 1) 0 7 (by first | assumption | omega | decide) (by first | assumption | omega | decide) (by first | assumption | omega | decide)) JN.all 3 gX7_isGoing_X7_isNumber rfl (by decide +kernel) ⟨Nat.le_of_ble_eq_true rfl, Nat.le_of_ble_eq_true rfl⟩ 0 7 rfl rfl rfl rfl rfl (Nat.le_of_ble_eq_true rfl) dX7_isGoing_7 (fun H locs hh => ?_)
  refine W.eq (g2 := F0 m 10 ls [.int ((F_X7_isNumber m_bytes m_text m_position m_faultAt m_read (x1 + 1) 0 7).1)]) rfl ?_
  generalize q_7 : F_X7_isNumber m_bytes m_text m_position m_faultAt m_read (x1 + 1) 0 7 = r7_1 at hh hF ⊢
  have hz_7 : r7_1.1 = 0 ∨ r7_1.1 = 1 := by rw [← q_7]; exact z_X7_isNumber _ _ _ _ _ _ _ _
  have hpos_7 : PosOk m_bytes r7_1.2.1 := by rw [← q_7]; exact ok_X7_isNumber hpos
  unfold F_X7_isGoing_c7 at hF
  have K_81 : ∀ (y0_2 : Int32) (w_m_position_3 : Int32) (w_m_tokenAt_4 : Int32) (w_m_token_5 : Int64) (w_m_digits_6 : Int32) (w_m_number_7 : Int32) (w_m_faultAt_8 : Int32) (w_m_read_9 : Nat → Int32) (hz_81 : y0_2 = 0 ∨ y0_2 = 1) (_ : R = (F_X7_isGoing_81 m_readTold x1) y0_2 w_m_position_3 w_m_tokenAt_4 w_m_token_5 w_m_digits_6 w_m_number_7 w_m_faultAt_8 w_m_read_9) (ls : Array Slot) (H : Heap) (locs : List Loc) (_ : HS D A s.heap (WM cI cZ cC cH o a_clock a_note a_text a_read a_fit a_shown a_image a_isKept a_row a_best m_told m_isRead1 m_clock m_note m_noted m_bytes m_text w_m_position_3 w_m_tokenAt_4 w_m_token_5 w_m_digits_6 w_m_number_7 w_m_faultAt_8 m_readMany m_readTold w_m_read_9 m_fit m_shown m_image m_isKept m_row m_best m_againAt m_againStep m_orderMany m_orderLeast) H locs) (_ : lv_has ls 3 [(0, .ref o), (1, .int x1)]), W p l e { frames := 3, cells := 0, slots := 0, locals := 65 } s m args below meth c H locs 0 0 Q (F0 m 81 ls [.int y0_2]) := by
    intro y0_2 w_m_position_3 w_m_tokenAt_4 w_m_token_5 w_m_digits_6 w_m_number_7 w_m_faultAt_8 w_m_read_9 hz_81 hF ls H locs hh hl
    unfold F_X7_isGoing_81 at hF
    refine lv_istore_n (lv' := [(2, .int y0_2), (0, .ref o), (1, .int x1)]) hx hb dX7_isGoing_81 rfl hl (Nat.le_of_ble_eq_true rfl) rfl (fun ls hl => ?_)
    refine lv_aload_n hx hb dX7_isGoing_82 rfl (lv_at hl 1 rfl) ?_
    refine lv_iload_n hx hb dX7_isGoing_83 rfl (lv_at hl 0 rfl) ?_
    refine lv_if_eq (tgt := 105) hx hb dX7_isGoing_84 (by decide) (fun c_84 => ?_) (fun c_84 => ?_)
    · replace hF := hF.trans (if_pos c_84)
      have i_84 : y0_2.toInt = 0 := congrArg Int32.toInt c_84
      refine lv_aload_n hx hb dX7_isGoing_105 rfl (lv_at hl 1 rfl) ?_
      refine g_get KX hh in_X7_isGoing_X7 0 rfl rfl 14 (by decide) rfl (List.mem_of_getElem? (i := 2) rfl) dX7_isGoing_106 ?_
      refine g_put KX hh in_X7_isGoing_X7 tyX7 tyX7_ok nmX7 0 rfl rfl 14 (by decide) rfl rfl rfl (Nat.le_of_ble_eq_true rfl) (List.mem_of_getElem? (i := 2) rfl) (w' := (WM cI cZ cC cH o a_clock a_note a_text a_read a_fit a_shown a_image a_isKept a_row a_best m_told m_isRead1 m_clock m_note m_noted m_bytes m_text w_m_position_3 w_m_tokenAt_4 w_m_token_5 w_m_digits_6 w_m_number_7 w_m_faultAt_8 m_readMany m_readTold w_m_read_9 m_fit m_shown m_image m_isKept m_row m_best m_againAt m_againStep m_orderMany m_orderLeast)) rfl rfl dX7_isGoing_109 (fun H locs hh => ?_)
      refine lv_iload_n hx hb dX7_isGoing_112 rfl (lv_at hl 0 rfl) ?_
      exact RT _ _ _ _ _ _ hh (by rw [hF]) (Or.inl ⟨_, rfl, by rw [hF], dX7_isGoing_113, Or.inr (Or.inl ⟨rfl, (by first | assumption | omega | decide)⟩)⟩)
    · replace hF := hF.trans (if_neg c_84)
      have i_84 : ¬ y0_2.toInt = 0 := ti_ne c_84
      refine lv_aload_n hx hb dX7_isGoing_87 rfl (lv_at hl 1 rfl) ?_
      refine g_get KX hh in_X7_isGoing_X7 0 rfl rfl 14 (by decide) rfl (List.mem_of_getElem? (i := 2) rfl) dX7_isGoing_88 ?_
      refine lv_iconst (v := 1) hx hb dX7_isGoing_91 (by decide) ?_
      refine lv_aload_n hx hb dX7_isGoing_92 rfl (lv_at hl 1 rfl) ?_
      refine g_get KX hh in_X7_isGoing_X7 0 rfl rfl 15 (by decide) rfl (List.mem_of_getElem? (i := 1) rfl) dX7_isGoing_93 ?_
      refine lv_iload_n hx hb dX7_isGoing_96 rfl (lv_at hl 2 rfl) ?_
      refine lv_iconst (v := 1) hx hb dX7_isGoing_97 (by decide) ?_
      refine lv_iadd hx hb dX7_isGoing_98 ?_
      refine g_iald KX hh 4 0 rfl rfl (vp_in_iff.mpr (by omega)) dX7_isGoing_99 ?_
      refine lv_ishl hx hb dX7_isGoing_100 ?_
      refine lv_ior hx hb dX7_isGoing_101 ?_
      refine lv_goto (tgt := 109) hx hb dX7_isGoing_102 (by decide) ?_
      refine g_put KX hh in_X7_isGoing_X7 tyX7 tyX7_ok nmX7 0 rfl rfl 14 (by decide) rfl rfl rfl (Nat.le_of_ble_eq_true rfl) (List.mem_of_getElem? (i := 2) rfl) (w' := (WM cI cZ cC cH o a_clock a_note a_text a_read a_fit a_shown a_image a_isKept a_row a_best m_told m_isRead1 m_clock m_note m_noted m_bytes m_text w_m_position_3 w_m_tokenAt_4 w_m_token_5 w_m_digits_6 w_m_number_7 w_m_faultAt_8 m_readMany (m_readTold ||| (1 <<< ((w_m_read_9 (x1 + 1).toNatClampNeg) &&& 31))) w_m_read_9 m_fit m_shown m_image m_isKept m_row m_best m_againAt m_againStep m_orderMany m_orderLeast)) rfl rfl dX7_isGoing_109 (fun H locs hh => ?_)
      refine lv_iload_n hx hb dX7_isGoing_112 rfl (lv_at hl 0 rfl) ?_
      exact RT _ _ _ _ _ _ hh (by rw [hF]) (Or.inl ⟨_, rfl, by rw [hF], dX7_isGoing_113, Or.inr (Or.inl ⟨rfl, (by first | assumption | omega | decide)⟩)⟩)
  have K_80 : ∀ (w_m_position_10 : Int32) (w_m_tokenAt_11 : Int32) (w_m_token_12 : Int64) (w_m_digits_13 : Int32) (w_m_number_14 : Int32) (w_m_faultAt_15 : Int32) (w_m_read_16 : Nat → Int32) (_ : R = (F_X7_isGoing_80 m_readTold x1) w_m_position_10 w_m_tokenAt_11 w_m_token_12 w_m_digits_13 w_m_number_14 w_m_faultAt_15 w_m_read_16) (ls : Array Slot) (H : Heap) (locs : List Loc) (_ : HS D A s.heap (WM cI cZ cC cH o a_clock a_note a_text a_read a_fit a_shown a_image a_isKept a_row a_best m_told m_isRead1 m_clock m_note m_noted m_bytes m_text w_m_position_10 w_m_tokenAt_11 w_m_token_12 w_m_digits_13 w_m_number_14 w_m_faultAt_15 m_readMany m_readTold w_m_read_16 m_fit m_shown m_image m_isKept m_row m_best m_againAt m_againStep m_orderMany m_orderLeast) H locs) (_ : lv_has ls 3 [(0, .ref o), (1, .int x1)]), W p l e { frames := 3, cells := 0, slots := 0, locals := 65 } s m args below meth c H locs 0 0 Q (F0 m 80 ls []) := by
    intro w_m_position_10 w_m_tokenAt_11 w_m_token_12 w_m_digits_13 w_m_number_14 w_m_faultAt_15 w_m_read_16 hF ls H locs hh hl
    unfold F_X7_isGoing_80 at hF
    refine lv_iconst (v := 0) hx hb dX7_isGoing_80 (by decide) ?_
    exact K_81 0 w_m_position_10 w_m_tokenAt_11 w_m_token_12 w_m_digits_13 w_m_number_14 w_m_faultAt_15 w_m_read_16 (by first | assumption | omega | decide) hF _ _ _ hh (lv_sub hl [0, 1] rfl)
  refine lv_if_eq (tgt := 80) hx hb dX7_isGoing_10 (by decide) (fun c_10 => ?_) (fun c_10 => ?_)
  · replace hF := hF.trans (if_pos c_10)
    have i_10 : r7_1.1.toInt = 0 := congrArg Int32.toInt c_10
    exact K_80 r7_1.2.1 r7_1.2.2.1 r7_1.2.2.2.1 r7_1.2.2.2.2.1 r7_1.2.2.2.2.2.1 r7_1.2.2.2.2.2.2.1 r7_1.2.2.2.2.2.2.2  hF _ _ _ hh (lv_sub hl [0, 1] rfl)
  · replace hF := hF.trans (if_neg c_10)
    have i_10 : ¬ r7_1.1.toInt = 0 := ti_ne c_10
    refine lv_aload_n hx hb dX7_isGoing_13 rfl (lv_at hl 0 rfl) ?_
    refine lv_iload_n hx hb dX7_isGoing_14 rfl (lv_at hl 1 rfl) ?_
    refine lv_iconst (v := 2) hx hb dX7_isGoing_15 (by decide) ?_
    refine lv_iadd hx hb dX7_isGoing_16 ?_
    refine lv_iconst (v := 0) hx hb dX7_isGoing_17 (by decide) ?_
    refine lv_sipush (v := 4319) hx hb dX7_isGoing_18 (by decide) ?_
    refine g_callV (As := [.int (x1 + 2), .int 0, .int 4319]) (rest := []) KX rfl ⟨Nat.le_of_ble_eq_true rfl, Nat.le_of_ble_eq_true rfl⟩ hh hl (c_X7_isNumber l D cI cZ cC cH o a_clock a_note a_text a_read a_fit a_shown a_image a_isKept a_row a_best m_told m_isRead1 m_clock m_note m_noted m_bytes m_text r7_1.2.1 r7_1.2.2.1 r7_1.2.2.2.1 r7_1.2.2.2.2.1 r7_1.2.2.2.2.2.1 r7_1.2.2.2.2.2.2.1 m_readMany m_readTold r7_1.2.2.2.2.2.2.2 m_fit m_shown m_image m_isKept m_row m_best m_againAt m_againStep m_orderMany m_orderLeast (x1 + 2) 0 4319 (by first | assumption | omega | decide) (by first | assumption | omega | decide) (by first | assumption | omega | decide)) JN.all 3 gX7_isGoing_X7_isNumber rfl (by decide +kernel) ⟨Nat.le_of_ble_eq_true rfl, Nat.le_of_ble_eq_true rfl⟩ 0 7 rfl rfl rfl rfl rfl (Nat.le_of_ble_eq_true rfl) dX7_isGoing_21 (fun H locs hh => ?_)
    refine W.eq (g2 := F0 m 24 ls [.int ((F_X7_isNumber m_bytes m_text r7_1.2.1 r7_1.2.2.2.2.2.2.1 r7_1.2.2.2.2.2.2.2 (x1 + 2) 0 4319).1)]) rfl ?_
    generalize q_21 : F_X7_isNumber m_bytes m_text r7_1.2.1 r7_1.2.2.2.2.2.2.1 r7_1.2.2.2.2.2.2.2 (x1 + 2) 0 4319 = r21_17 at hh hF ⊢
    have hz_21 : r21_17.1 = 0 ∨ r21_17.1 = 1 := by rw [← q_21]; exact z_X7_isNumber _ _ _ _ _ _ _ _
    have hpos_21 : PosOk m_bytes r21_17.2.1 := by rw [← q_21]; exact ok_X7_isNumber hpos_7
    unfold F_X7_isGoing_c21 at hF
    refine lv_if_eq (tgt := 80) hx hb dX7_isGoing_24 (by decide) (fun c_24 => ?_) (fun c_24 => ?_)
    · replace hF := hF.trans (if_pos c_24)
      have i_24 : r21_17.1.toInt = 0 := congrArg Int32.toInt c_24
      exact K_80 r21_17.2.1 r21_17.2.2.1 r21_17.2.2.2.1 r21_17.2.2.2.2.1 r21_17.2.2.2.2.2.1 r21_17.2.2.2.2.2.2.1 r21_17.2.2.2.2.2.2.2  hF _ _ _ hh (lv_sub hl [0, 1] rfl)
    · replace hF := hF.trans (if_neg c_24)
      have i_24 : ¬ r21_17.1.toInt = 0 := ti_ne c_24
      refine lv_aload_n hx hb dX7_isGoing_27 rfl (lv_at hl 0 rfl) ?_
      refine lv_iload_n hx hb dX7_isGoing_28 rfl (lv_at hl 1 rfl) ?_
      refine lv_iconst (v := 3) hx hb dX7_isGoing_29 (by decide) ?_
      refine lv_iadd hx hb dX7_isGoing_30 ?_
      refine lv_iconst (v := 0) hx hb dX7_isGoing_31 (by decide) ?_
      refine lv_sipush (v := 719) hx hb dX7_isGoing_32 (by decide) ?_
      refine g_callV (As := [.int (x1 + 3), .int 0, .int 719]) (rest := []) KX rfl ⟨Nat.le_of_ble_eq_true rfl, Nat.le_of_ble_eq_true rfl⟩ hh hl (c_X7_isNumber l D cI cZ cC cH o a_clock a_note a_text a_read a_fit a_shown a_image a_isKept a_row a_best m_told m_isRead1 m_clock m_note m_noted m_bytes m_text r21_17.2.1 r21_17.2.2.1 r21_17.2.2.2.1 r21_17.2.2.2.2.1 r21_17.2.2.2.2.2.1 r21_17.2.2.2.2.2.2.1 m_readMany m_readTold r21_17.2.2.2.2.2.2.2 m_fit m_shown m_image m_isKept m_row m_best m_againAt m_againStep m_orderMany m_orderLeast (x1 + 3) 0 719 (by first | assumption | omega | decide) (by first | assumption | omega | decide) (by first | assumption | omega | decide)) JN.all 3 gX7_isGoing_X7_isNumber rfl (by decide +kernel) ⟨Nat.le_of_ble_eq_true rfl, Nat.le_of_ble_eq_true rfl⟩ 0 7 rfl rfl rfl rfl rfl (Nat.le_of_ble_eq_true rfl) dX7_isGoing_35 (fun H locs hh => ?_)
      refine W.eq (g2 := F0 m 38 ls [.int ((F_X7_isNumber m_bytes m_text r21_17.2.1 r21_17.2.2.2.2.2.2.1 r21_17.2.2.2.2.2.2.2 (x1 + 3) 0 719).1)]) rfl ?_
      generalize q_35 : F_X7_isNumber m_bytes m_text r21_17.2.1 r21_17.2.2.2.2.2.2.1 r21_17.2.2.2.2.2.2.2 (x1 + 3) 0 719 = r35_18 at hh hF ⊢
      have hz_35 : r35_18.1 = 0 ∨ r35_18.1 = 1 := by rw [← q_35]; exact z_X7_isNumber _ _ _ _ _ _ _ _
      have hpos_35 : PosOk m_bytes r35_18.2.1 := by rw [← q_35]; exact ok_X7_isNumber hpos_21
      unfold F_X7_isGoing_c35 at hF
      refine lv_if_eq (tgt := 80) hx hb dX7_isGoing_38 (by decide) (fun c_38 => ?_) (fun c_38 => ?_)
      · replace hF := hF.trans (if_pos c_38)
        have i_38 : r35_18.1.toInt = 0 := congrArg Int32.toInt c_38
        exact K_80 r35_18.2.1 r35_18.2.2.1 r35_18.2.2.2.1 r35_18.2.2.2.2.1 r35_18.2.2.2.2.2.1 r35_18.2.2.2.2.2.2.1 r35_18.2.2.2.2.2.2.2  hF _ _ _ hh (lv_sub hl [0, 1] rfl)
      · replace hF := hF.trans (if_neg c_38)
        have i_38 : ¬ r35_18.1.toInt = 0 := ti_ne c_38
        refine lv_aload_n hx hb dX7_isGoing_41 rfl (lv_at hl 0 rfl) ?_
        refine lv_iload_n hx hb dX7_isGoing_42 rfl (lv_at hl 1 rfl) ?_
        refine lv_iconst (v := 4) hx hb dX7_isGoing_43 (by decide) ?_
        refine lv_iadd hx hb dX7_isGoing_44 ?_
        refine lv_iconst (v := 0) hx hb dX7_isGoing_45 (by decide) ?_
        refine lv_sipush (v := 240) hx hb dX7_isGoing_46 (by decide) ?_
        refine g_callV (As := [.int (x1 + 4), .int 0, .int 240]) (rest := []) KX rfl ⟨Nat.le_of_ble_eq_true rfl, Nat.le_of_ble_eq_true rfl⟩ hh hl (c_X7_isNumber l D cI cZ cC cH o a_clock a_note a_text a_read a_fit a_shown a_image a_isKept a_row a_best m_told m_isRead1 m_clock m_note m_noted m_bytes m_text r35_18.2.1 r35_18.2.2.1 r35_18.2.2.2.1 r35_18.2.2.2.2.1 r35_18.2.2.2.2.2.1 r35_18.2.2.2.2.2.2.1 m_readMany m_readTold r35_18.2.2.2.2.2.2.2 m_fit m_shown m_image m_isKept m_row m_best m_againAt m_againStep m_orderMany m_orderLeast (x1 + 4) 0 240 (by first | assumption | omega | decide) (by first | assumption | omega | decide) (by first | assumption | omega | decide)) JN.all 3 gX7_isGoing_X7_isNumber rfl (by decide +kernel) ⟨Nat.le_of_ble_eq_true rfl, Nat.le_of_ble_eq_true rfl⟩ 0 7 rfl rfl rfl rfl rfl (Nat.le_of_ble_eq_true rfl) dX7_isGoing_49 (fun H locs hh => ?_)
        refine W.eq (g2 := F0 m 52 ls [.int ((F_X7_isNumber m_bytes m_text r35_18.2.1 r35_18.2.2.2.2.2.2.1 r35_18.2.2.2.2.2.2.2 (x1 + 4) 0 240).1)]) rfl ?_
        generalize q_49 : F_X7_isNumber m_bytes m_text r35_18.2.1 r35_18.2.2.2.2.2.2.1 r35_18.2.2.2.2.2.2.2 (x1 + 4) 0 240 = r49_19 at hh hF ⊢
        have hz_49 : r49_19.1 = 0 ∨ r49_19.1 = 1 := by rw [← q_49]; exact z_X7_isNumber _ _ _ _ _ _ _ _
        have hpos_49 : PosOk m_bytes r49_19.2.1 := by rw [← q_49]; exact ok_X7_isNumber hpos_35
        unfold F_X7_isGoing_c49 at hF
        refine lv_if_eq (tgt := 80) hx hb dX7_isGoing_52 (by decide) (fun c_52 => ?_) (fun c_52 => ?_)
        · replace hF := hF.trans (if_pos c_52)
          have i_52 : r49_19.1.toInt = 0 := congrArg Int32.toInt c_52
          exact K_80 r49_19.2.1 r49_19.2.2.1 r49_19.2.2.2.1 r49_19.2.2.2.2.1 r49_19.2.2.2.2.2.1 r49_19.2.2.2.2.2.2.1 r49_19.2.2.2.2.2.2.2  hF _ _ _ hh (lv_sub hl [0, 1] rfl)
        · replace hF := hF.trans (if_neg c_52)
          have i_52 : ¬ r49_19.1.toInt = 0 := ti_ne c_52
          refine lv_aload_n hx hb dX7_isGoing_55 rfl (lv_at hl 0 rfl) ?_
          refine lv_iload_n hx hb dX7_isGoing_56 rfl (lv_at hl 1 rfl) ?_
          refine lv_iconst (v := 5) hx hb dX7_isGoing_57 (by decide) ?_
          refine lv_iadd hx hb dX7_isGoing_58 ?_
          refine lv_aload_n hx hb dX7_isGoing_59 rfl (lv_at hl 0 rfl) ?_
          refine g_get KX hh in_X7_isGoing_X7 0 rfl rfl 15 (by decide) rfl (List.mem_of_getElem? (i := 1) rfl) dX7_isGoing_60 ?_
          refine lv_iload_n hx hb dX7_isGoing_63 rfl (lv_at hl 1 rfl) ?_
          refine lv_iconst (v := 4) hx hb dX7_isGoing_64 (by decide) ?_
          refine lv_iadd hx hb dX7_isGoing_65 ?_
          refine g_iald KX hh 4 0 rfl rfl (vp_in_iff.mpr (by omega)) dX7_isGoing_66 ?_
          refine lv_sipush (v := 240) hx hb dX7_isGoing_67 (by decide) ?_
          refine g_callV (As := [.int (x1 + 5), .int (r49_19.2.2.2.2.2.2.2 (x1 + 4).toNatClampNeg), .int 240]) (rest := []) KX rfl ⟨Nat.le_of_ble_eq_true rfl, Nat.le_of_ble_eq_true rfl⟩ hh hl (c_X7_isNumber l D cI cZ cC cH o a_clock a_note a_text a_read a_fit a_shown a_image a_isKept a_row a_best m_told m_isRead1 m_clock m_note m_noted m_bytes m_text r49_19.2.1 r49_19.2.2.1 r49_19.2.2.2.1 r49_19.2.2.2.2.1 r49_19.2.2.2.2.2.1 r49_19.2.2.2.2.2.2.1 m_readMany m_readTold r49_19.2.2.2.2.2.2.2 m_fit m_shown m_image m_isKept m_row m_best m_againAt m_againStep m_orderMany m_orderLeast (x1 + 5) (r49_19.2.2.2.2.2.2.2 (x1 + 4).toNatClampNeg) 240 (by first | assumption | omega | decide) (by first | assumption | omega | decide) (by first | assumption | omega | decide)) JN.all 3 gX7_isGoing_X7_isNumber rfl (by decide +kernel) ⟨Nat.le_of_ble_eq_true rfl, Nat.le_of_ble_eq_true rfl⟩ 0 7 rfl rfl rfl rfl rfl (Nat.le_of_ble_eq_true rfl) dX7_isGoing_70 (fun H locs hh => ?_)
          refine W.eq (g2 := F0 m 73 ls [.int ((F_X7_isNumber m_bytes m_text r49_19.2.1 r49_19.2.2.2.2.2.2.1 r49_19.2.2.2.2.2.2.2 (x1 + 5) (r49_19.2.2.2.2.2.2.2 (x1 + 4).toNatClampNeg) 240).1)]) rfl ?_
          generalize q_70 : F_X7_isNumber m_bytes m_text r49_19.2.1 r49_19.2.2.2.2.2.2.1 r49_19.2.2.2.2.2.2.2 (x1 + 5) (r49_19.2.2.2.2.2.2.2 (x1 + 4).toNatClampNeg) 240 = r70_20 at hh hF ⊢
          have hz_70 : r70_20.1 = 0 ∨ r70_20.1 = 1 := by rw [← q_70]; exact z_X7_isNumber _ _ _ _ _ _ _ _
          have hpos_70 : PosOk m_bytes r70_20.2.1 := by rw [← q_70]; exact ok_X7_isNumber hpos_49
          unfold F_X7_isGoing_c70 at hF
          refine lv_if_eq (tgt := 80) hx hb dX7_isGoing_73 (by decide) (fun c_73 => ?_) (fun c_73 => ?_)
          · replace hF := hF.trans (if_pos c_73)
            have i_73 : r70_20.1.toInt = 0 := congrArg Int32.toInt c_73
            exact K_80 r70_20.2.1 r70_20.2.2.1 r70_20.2.2.2.1 r70_20.2.2.2.2.1 r70_20.2.2.2.2.2.1 r70_20.2.2.2.2.2.2.1 r70_20.2.2.2.2.2.2.2  hF _ _ _ hh (lv_sub hl [0, 1] rfl)
          · replace hF := hF.trans (if_neg c_73)
            have i_73 : ¬ r70_20.1.toInt = 0 := ti_ne c_73
            refine lv_iconst (v := 1) hx hb dX7_isGoing_76 (by decide) ?_
            refine lv_goto (tgt := 81) hx hb dX7_isGoing_77 (by decide) ?_
            exact K_81 1 r70_20.2.1 r70_20.2.2.1 r70_20.2.2.2.1 r70_20.2.2.2.2.1 r70_20.2.2.2.2.2.1 r70_20.2.2.2.2.2.2.1 r70_20.2.2.2.2.2.2.2 (by first | assumption | omega | decide) hF _ _ _ hh (lv_sub hl [0, 1] rfl)
theorem zb_F_X7_isGoing_81 {m_readTold : Int32} {x1 : Int32} {y0_2 : Int32} {w_m_position_3 : Int32} {w_m_tokenAt_4 : Int32} {w_m_token_5 : Int64} {w_m_digits_6 : Int32} {w_m_number_7 : Int32} {w_m_faultAt_8 : Int32} {w_m_read_9 : Nat → Int32} (hz0 : y0_2 = 0 ∨ y0_2 = 1) : (F_X7_isGoing_81 m_readTold x1 y0_2 w_m_position_3 w_m_tokenAt_4 w_m_token_5 w_m_digits_6 w_m_number_7 w_m_faultAt_8 w_m_read_9).1 = 0 ∨ (F_X7_isGoing_81 m_readTold x1 y0_2 w_m_position_3 w_m_tokenAt_4 w_m_token_5 w_m_digits_6 w_m_number_7 w_m_faultAt_8 w_m_read_9).1 = 1 := by
  unfold F_X7_isGoing_81
  repeat' split
  all_goals first | with_reducible assumption | with_reducible exact z_X7_isNumber _ _ _ _ _ _ _ _ | ((try dsimp only); first | with_reducible exact Or.inl rfl | with_reducible exact Or.inr rfl | with_reducible assumption)
theorem zb_F_X7_isGoing_80 {m_readTold : Int32} {x1 : Int32} {w_m_position_10 : Int32} {w_m_tokenAt_11 : Int32} {w_m_token_12 : Int64} {w_m_digits_13 : Int32} {w_m_number_14 : Int32} {w_m_faultAt_15 : Int32} {w_m_read_16 : Nat → Int32} : (F_X7_isGoing_80 m_readTold x1 w_m_position_10 w_m_tokenAt_11 w_m_token_12 w_m_digits_13 w_m_number_14 w_m_faultAt_15 w_m_read_16).1 = 0 ∨ (F_X7_isGoing_80 m_readTold x1 w_m_position_10 w_m_tokenAt_11 w_m_token_12 w_m_digits_13 w_m_number_14 w_m_faultAt_15 w_m_read_16).1 = 1 := by
  unfold F_X7_isGoing_80
  repeat' split
  all_goals first | with_reducible assumption | with_reducible exact z_X7_isNumber _ _ _ _ _ _ _ _ | with_reducible exact zb_F_X7_isGoing_81 (by with_reducible assumption) | with_reducible exact zb_F_X7_isGoing_81 (Or.inl rfl) | with_reducible exact zb_F_X7_isGoing_81 (Or.inr rfl) | ((try dsimp only); first | with_reducible exact Or.inl rfl | with_reducible exact Or.inr rfl | with_reducible assumption)
theorem zb_F_X7_isGoing_c70 {m_readTold : Int32} {x1 : Int32} {r70_20 : Int32 × Int32 × Int32 × Int64 × Int32 × Int32 × Int32 × (Nat → Int32)} (hz0 : r70_20.1 = 0 ∨ r70_20.1 = 1) : (F_X7_isGoing_c70 m_readTold x1 r70_20).1 = 0 ∨ (F_X7_isGoing_c70 m_readTold x1 r70_20).1 = 1 := by
  unfold F_X7_isGoing_c70
  repeat' split
  all_goals first | with_reducible assumption | with_reducible exact z_X7_isNumber _ _ _ _ _ _ _ _ | with_reducible exact zb_F_X7_isGoing_81 (by with_reducible assumption) | with_reducible exact zb_F_X7_isGoing_81 (Or.inl rfl) | with_reducible exact zb_F_X7_isGoing_81 (Or.inr rfl) | with_reducible exact zb_F_X7_isGoing_80 | ((try dsimp only); first | with_reducible exact Or.inl rfl | with_reducible exact Or.inr rfl | with_reducible assumption)
theorem zb_F_X7_isGoing_c49 {m_bytes : Int32} {m_text : Nat → Int32} {m_readTold : Int32} {x1 : Int32} {r49_19 : Int32 × Int32 × Int32 × Int64 × Int32 × Int32 × Int32 × (Nat → Int32)} (hz0 : r49_19.1 = 0 ∨ r49_19.1 = 1) : (F_X7_isGoing_c49 m_bytes m_text m_readTold x1 r49_19).1 = 0 ∨ (F_X7_isGoing_c49 m_bytes m_text m_readTold x1 r49_19).1 = 1 := by
  unfold F_X7_isGoing_c49
  repeat' split
  all_goals first | with_reducible assumption | with_reducible exact z_X7_isNumber _ _ _ _ _ _ _ _ | with_reducible exact zb_F_X7_isGoing_81 (by with_reducible assumption) | with_reducible exact zb_F_X7_isGoing_81 (Or.inl rfl) | with_reducible exact zb_F_X7_isGoing_81 (Or.inr rfl) | with_reducible exact zb_F_X7_isGoing_80 | with_reducible exact zb_F_X7_isGoing_c70 (by with_reducible assumption) | with_reducible exact zb_F_X7_isGoing_c70 (Or.inl rfl) | with_reducible exact zb_F_X7_isGoing_c70 (Or.inr rfl) | with_reducible exact zb_F_X7_isGoing_c70 (z_X7_isNumber _ _ _ _ _ _ _ _) | ((try dsimp only); first | with_reducible exact Or.inl rfl | with_reducible exact Or.inr rfl | with_reducible assumption)
theorem zb_F_X7_isGoing_c35 {m_bytes : Int32} {m_text : Nat → Int32} {m_readTold : Int32} {x1 : Int32} {r35_18 : Int32 × Int32 × Int32 × Int64 × Int32 × Int32 × Int32 × (Nat → Int32)} (hz0 : r35_18.1 = 0 ∨ r35_18.1 = 1) : (F_X7_isGoing_c35 m_bytes m_text m_readTold x1 r35_18).1 = 0 ∨ (F_X7_isGoing_c35 m_bytes m_text m_readTold x1 r35_18).1 = 1 := by
  unfold F_X7_isGoing_c35
  repeat' split
  all_goals first | with_reducible assumption | with_reducible exact z_X7_isNumber _ _ _ _ _ _ _ _ | with_reducible exact zb_F_X7_isGoing_81 (by with_reducible assumption) | with_reducible exact zb_F_X7_isGoing_81 (Or.inl rfl) | with_reducible exact zb_F_X7_isGoing_81 (Or.inr rfl) | with_reducible exact zb_F_X7_isGoing_80 | with_reducible exact zb_F_X7_isGoing_c70 (by with_reducible assumption) | with_reducible exact zb_F_X7_isGoing_c70 (Or.inl rfl) | with_reducible exact zb_F_X7_isGoing_c70 (Or.inr rfl) | with_reducible exact zb_F_X7_isGoing_c70 (z_X7_isNumber _ _ _ _ _ _ _ _) | with_reducible exact zb_F_X7_isGoing_c49 (by with_reducible assumption) | with_reducible exact zb_F_X7_isGoing_c49 (Or.inl rfl) | with_reducible exact zb_F_X7_isGoing_c49 (Or.inr rfl) | with_reducible exact zb_F_X7_isGoing_c49 (z_X7_isNumber _ _ _ _ _ _ _ _) | ((try dsimp only); first | with_reducible exact Or.inl rfl | with_reducible exact Or.inr rfl | with_reducible assumption)
theorem zb_F_X7_isGoing_c21 {m_bytes : Int32} {m_text : Nat → Int32} {m_readTold : Int32} {x1 : Int32} {r21_17 : Int32 × Int32 × Int32 × Int64 × Int32 × Int32 × Int32 × (Nat → Int32)} (hz0 : r21_17.1 = 0 ∨ r21_17.1 = 1) : (F_X7_isGoing_c21 m_bytes m_text m_readTold x1 r21_17).1 = 0 ∨ (F_X7_isGoing_c21 m_bytes m_text m_readTold x1 r21_17).1 = 1 := by
  unfold F_X7_isGoing_c21
  repeat' split
  all_goals first | with_reducible assumption | with_reducible exact z_X7_isNumber _ _ _ _ _ _ _ _ | with_reducible exact zb_F_X7_isGoing_81 (by with_reducible assumption) | with_reducible exact zb_F_X7_isGoing_81 (Or.inl rfl) | with_reducible exact zb_F_X7_isGoing_81 (Or.inr rfl) | with_reducible exact zb_F_X7_isGoing_80 | with_reducible exact zb_F_X7_isGoing_c70 (by with_reducible assumption) | with_reducible exact zb_F_X7_isGoing_c70 (Or.inl rfl) | with_reducible exact zb_F_X7_isGoing_c70 (Or.inr rfl) | with_reducible exact zb_F_X7_isGoing_c70 (z_X7_isNumber _ _ _ _ _ _ _ _) | with_reducible exact zb_F_X7_isGoing_c49 (by with_reducible assumption) | with_reducible exact zb_F_X7_isGoing_c49 (Or.inl rfl) | with_reducible exact zb_F_X7_isGoing_c49 (Or.inr rfl) | with_reducible exact zb_F_X7_isGoing_c49 (z_X7_isNumber _ _ _ _ _ _ _ _) | with_reducible exact zb_F_X7_isGoing_c35 (by with_reducible assumption) | with_reducible exact zb_F_X7_isGoing_c35 (Or.inl rfl) | with_reducible exact zb_F_X7_isGoing_c35 (Or.inr rfl) | with_reducible exact zb_F_X7_isGoing_c35 (z_X7_isNumber _ _ _ _ _ _ _ _) | ((try dsimp only); first | with_reducible exact Or.inl rfl | with_reducible exact Or.inr rfl | with_reducible assumption)
theorem zb_F_X7_isGoing_c7 {m_bytes : Int32} {m_text : Nat → Int32} {m_readTold : Int32} {x1 : Int32} {r7_1 : Int32 × Int32 × Int32 × Int64 × Int32 × Int32 × Int32 × (Nat → Int32)} (hz0 : r7_1.1 = 0 ∨ r7_1.1 = 1) : (F_X7_isGoing_c7 m_bytes m_text m_readTold x1 r7_1).1 = 0 ∨ (F_X7_isGoing_c7 m_bytes m_text m_readTold x1 r7_1).1 = 1 := by
  unfold F_X7_isGoing_c7
  repeat' split
  all_goals first | with_reducible assumption | with_reducible exact z_X7_isNumber _ _ _ _ _ _ _ _ | with_reducible exact zb_F_X7_isGoing_81 (by with_reducible assumption) | with_reducible exact zb_F_X7_isGoing_81 (Or.inl rfl) | with_reducible exact zb_F_X7_isGoing_81 (Or.inr rfl) | with_reducible exact zb_F_X7_isGoing_80 | with_reducible exact zb_F_X7_isGoing_c70 (by with_reducible assumption) | with_reducible exact zb_F_X7_isGoing_c70 (Or.inl rfl) | with_reducible exact zb_F_X7_isGoing_c70 (Or.inr rfl) | with_reducible exact zb_F_X7_isGoing_c70 (z_X7_isNumber _ _ _ _ _ _ _ _) | with_reducible exact zb_F_X7_isGoing_c49 (by with_reducible assumption) | with_reducible exact zb_F_X7_isGoing_c49 (Or.inl rfl) | with_reducible exact zb_F_X7_isGoing_c49 (Or.inr rfl) | with_reducible exact zb_F_X7_isGoing_c49 (z_X7_isNumber _ _ _ _ _ _ _ _) | with_reducible exact zb_F_X7_isGoing_c35 (by with_reducible assumption) | with_reducible exact zb_F_X7_isGoing_c35 (Or.inl rfl) | with_reducible exact zb_F_X7_isGoing_c35 (Or.inr rfl) | with_reducible exact zb_F_X7_isGoing_c35 (z_X7_isNumber _ _ _ _ _ _ _ _) | with_reducible exact zb_F_X7_isGoing_c21 (by with_reducible assumption) | with_reducible exact zb_F_X7_isGoing_c21 (Or.inl rfl) | with_reducible exact zb_F_X7_isGoing_c21 (Or.inr rfl) | with_reducible exact zb_F_X7_isGoing_c21 (z_X7_isNumber _ _ _ _ _ _ _ _) | ((try dsimp only); first | with_reducible exact Or.inl rfl | with_reducible exact Or.inr rfl | with_reducible assumption)
theorem z_X7_isGoing (m_bytes : Int32) (m_text : Nat → Int32) (m_position : Int32) (m_faultAt : Int32) (m_readTold : Int32) (m_read : Nat → Int32) (x1 : Int32) : (F_X7_isGoing m_bytes m_text m_position m_faultAt m_readTold m_read x1).1 = 0 ∨ (F_X7_isGoing m_bytes m_text m_position m_faultAt m_readTold m_read x1).1 = 1 := by
  unfold F_X7_isGoing
  repeat' split
  all_goals first | with_reducible assumption | with_reducible exact z_X7_isNumber _ _ _ _ _ _ _ _ | with_reducible exact zb_F_X7_isGoing_81 (by with_reducible assumption) | with_reducible exact zb_F_X7_isGoing_81 (Or.inl rfl) | with_reducible exact zb_F_X7_isGoing_81 (Or.inr rfl) | with_reducible exact zb_F_X7_isGoing_80 | with_reducible exact zb_F_X7_isGoing_c70 (by with_reducible assumption) | with_reducible exact zb_F_X7_isGoing_c70 (Or.inl rfl) | with_reducible exact zb_F_X7_isGoing_c70 (Or.inr rfl) | with_reducible exact zb_F_X7_isGoing_c70 (z_X7_isNumber _ _ _ _ _ _ _ _) | with_reducible exact zb_F_X7_isGoing_c49 (by with_reducible assumption) | with_reducible exact zb_F_X7_isGoing_c49 (Or.inl rfl) | with_reducible exact zb_F_X7_isGoing_c49 (Or.inr rfl) | with_reducible exact zb_F_X7_isGoing_c49 (z_X7_isNumber _ _ _ _ _ _ _ _) | with_reducible exact zb_F_X7_isGoing_c35 (by with_reducible assumption) | with_reducible exact zb_F_X7_isGoing_c35 (Or.inl rfl) | with_reducible exact zb_F_X7_isGoing_c35 (Or.inr rfl) | with_reducible exact zb_F_X7_isGoing_c35 (z_X7_isNumber _ _ _ _ _ _ _ _) | with_reducible exact zb_F_X7_isGoing_c21 (by with_reducible assumption) | with_reducible exact zb_F_X7_isGoing_c21 (Or.inl rfl) | with_reducible exact zb_F_X7_isGoing_c21 (Or.inr rfl) | with_reducible exact zb_F_X7_isGoing_c21 (z_X7_isNumber _ _ _ _ _ _ _ _) | with_reducible exact zb_F_X7_isGoing_c7 (by with_reducible assumption) | with_reducible exact zb_F_X7_isGoing_c7 (Or.inl rfl) | with_reducible exact zb_F_X7_isGoing_c7 (Or.inr rfl) | with_reducible exact zb_F_X7_isGoing_c7 (z_X7_isNumber _ _ _ _ _ _ _ _) | ((try dsimp only); first | with_reducible exact Or.inl rfl | with_reducible exact Or.inr rfl | with_reducible assumption)
def F_X7_isStopped_32 (m_readTold : Int32) (x1 : Int32) (y0_2 : Int32) (w_m_position_3 : Int32) (w_m_tokenAt_4 : Int32) (w_m_token_5 : Int64) (w_m_digits_6 : Int32) (w_m_number_7 : Int32) (w_m_faultAt_8 : Int32) (w_m_read_9 : Nat → Int32) : Int32 × Int32 × Int32 × Int64 × Int32 × Int32 × Int32 × Int32 × (Nat → Int32) := (if y0_2 = 0 then (y0_2, w_m_position_3, w_m_tokenAt_4, w_m_token_5, w_m_digits_6, w_m_number_7, w_m_faultAt_8, m_readTold, w_m_read_9) else (y0_2, w_m_position_3, w_m_tokenAt_4, w_m_token_5, w_m_digits_6, w_m_number_7, w_m_faultAt_8, m_readTold ||| (1 <<< ((w_m_read_9 (x1 + 1).toNatClampNeg) &&& 31)), w_m_read_9))
def F_X7_isStopped_31 (m_readTold : Int32) (x1 : Int32) (w_m_position_10 : Int32) (w_m_tokenAt_11 : Int32) (w_m_token_12 : Int64) (w_m_digits_13 : Int32) (w_m_number_14 : Int32) (w_m_faultAt_15 : Int32) (w_m_read_16 : Nat → Int32) : Int32 × Int32 × Int32 × Int64 × Int32 × Int32 × Int32 × Int32 × (Nat → Int32) := (F_X7_isStopped_32 m_readTold x1 0 w_m_position_10 w_m_tokenAt_11 w_m_token_12 w_m_digits_13 w_m_number_14 w_m_faultAt_15 w_m_read_16)
def F_X7_isStopped_c21 (m_readTold : Int32) (x1 : Int32) (r21_17 : Int32 × Int32 × Int32 × Int64 × Int32 × Int32 × Int32 × (Nat → Int32)) : Int32 × Int32 × Int32 × Int64 × Int32 × Int32 × Int32 × Int32 × (Nat → Int32) := (if r21_17.1 = 0 then (F_X7_isStopped_31 m_readTold x1 r21_17.2.1 r21_17.2.2.1 r21_17.2.2.2.1 r21_17.2.2.2.2.1 r21_17.2.2.2.2.2.1 r21_17.2.2.2.2.2.2.1 r21_17.2.2.2.2.2.2.2) else (F_X7_isStopped_32 m_readTold x1 1 r21_17.2.1 r21_17.2.2.1 r21_17.2.2.2.1 r21_17.2.2.2.2.1 r21_17.2.2.2.2.2.1 r21_17.2.2.2.2.2.2.1 r21_17.2.2.2.2.2.2.2))
def F_X7_isStopped_c7 (m_bytes : Int32) (m_text : Nat → Int32) (m_readTold : Int32) (x1 : Int32) (r7_1 : Int32 × Int32 × Int32 × Int64 × Int32 × Int32 × Int32 × (Nat → Int32)) : Int32 × Int32 × Int32 × Int64 × Int32 × Int32 × Int32 × Int32 × (Nat → Int32) := (if r7_1.1 = 0 then (F_X7_isStopped_31 m_readTold x1 r7_1.2.1 r7_1.2.2.1 r7_1.2.2.2.1 r7_1.2.2.2.2.1 r7_1.2.2.2.2.2.1 r7_1.2.2.2.2.2.2.1 r7_1.2.2.2.2.2.2.2) else (F_X7_isStopped_c21 m_readTold x1 (F_X7_isNumber m_bytes m_text r7_1.2.1 r7_1.2.2.2.2.2.2.1 r7_1.2.2.2.2.2.2.2 (x1 + 3) 0 719)))
def F_X7_isStopped (m_bytes : Int32) (m_text : Nat → Int32) (m_position : Int32) (m_faultAt : Int32) (m_readTold : Int32) (m_read : Nat → Int32) (x1 : Int32) : Int32 × Int32 × Int32 × Int64 × Int32 × Int32 × Int32 × Int32 × (Nat → Int32) := (F_X7_isStopped_c7 m_bytes m_text m_readTold x1 (F_X7_isNumber m_bytes m_text m_position m_faultAt m_read (x1 + 1) 0 7))
theorem in_X7_isStopped_X7 : ∀ x ∈ u_ws RX7 TX7 26, x ∈ wsX7_isStopped := by decide +kernel
set_option maxHeartbeats 8000000 in
set_option maxRecDepth 100000 in
theorem c_X7_isStopped (l : Launch) (D : va_G) (cI cZ cC cH : ClassId) (o a_clock a_note a_text a_read a_fit a_shown a_image a_isKept a_row a_best : Nat) (m_told : Int32) (m_isRead1 : Int32) (m_clock : Nat → Int32) (m_note : Nat → Int32) (m_noted : Int32) (m_bytes : Int32) (m_text : Nat → Int32) (m_position : Int32) (m_tokenAt : Int32) (m_token : Int64) (m_digits : Int32) (m_number : Int32) (m_faultAt : Int32) (m_readMany : Int32) (m_readTold : Int32) (m_read : Nat → Int32) (m_fit : Nat → Int32) (m_shown : Nat → Int32) (m_image : Nat → Int32) (m_isKept : Nat → Int32) (m_row : Nat → Int32) (m_best : Nat → Int32) (m_againAt : Int32) (m_againStep : Int32) (m_orderMany : Int32) (m_orderLeast : Int32) (x1 : Int32) (hpos : PosOk m_bytes m_position) (hw0 : 0 ≤ x1.toInt) (hw1 : x1.toInt ≤ 42) : MC l D (TY cI cZ cC cH) yX7_isStopped wsX7_isStopped 3 65 [.ref o, .int x1] (WM cI cZ cC cH o a_clock a_note a_text a_read a_fit a_shown a_image a_isKept a_row a_best m_told m_isRead1 m_clock m_note m_noted m_bytes m_text m_position m_tokenAt m_token m_digits m_number m_faultAt m_readMany m_readTold m_read m_fit m_shown m_image m_isKept m_row m_best m_againAt m_againStep m_orderMany m_orderLeast) (some (.int ((F_X7_isStopped m_bytes m_text m_position m_faultAt m_readTold m_read x1).1))) (WM cI cZ cC cH o a_clock a_note a_text a_read a_fit a_shown a_image a_isKept a_row a_best m_told m_isRead1 m_clock m_note m_noted m_bytes m_text (F_X7_isStopped m_bytes m_text m_position m_faultAt m_readTold m_read x1).2.1 (F_X7_isStopped m_bytes m_text m_position m_faultAt m_readTold m_read x1).2.2.1 (F_X7_isStopped m_bytes m_text m_position m_faultAt m_readTold m_read x1).2.2.2.1 (F_X7_isStopped m_bytes m_text m_position m_faultAt m_readTold m_read x1).2.2.2.2.1 (F_X7_isStopped m_bytes m_text m_position m_faultAt m_readTold m_read x1).2.2.2.2.2.1 (F_X7_isStopped m_bytes m_text m_position m_faultAt m_readTold m_read x1).2.2.2.2.2.2.1 m_readMany (F_X7_isStopped m_bytes m_text m_position m_faultAt m_readTold m_read x1).2.2.2.2.2.2.2.1 (F_X7_isStopped m_bytes m_text m_position m_faultAt m_readTold m_read x1).2.2.2.2.2.2.2.2 m_fit m_shown m_image m_isKept m_row m_best m_againAt m_againStep m_orderMany m_orderLeast) := by
  obtain ⟨R, hF⟩ : ∃ R, R = F_X7_isStopped m_bytes m_text m_position m_faultAt m_readTold m_read x1 := ⟨_, rfl⟩
  rw [← hF]
  refine MC.of (cc := cX7_isStopped) (maxL := 3) (ret := (some .boolean)) RX7 rfl (by decide +kernel) rfl (Nat.le_of_ble_eq_true rfl) ?_
  intro p e s m args below meth c A Q KX RT hh ls hl
  have z0 : (0 : Int32).toInt = 0 := rfl
  have z1 : (1 : Int32).toInt = 1 := rfl
  have zm : (-1 : Int32).toInt = -1 := rfl
  have hx := KX.1
  have hb := KX.2.1
  have hl : lv_has ls 3 [(0, .ref o), (1, .int x1)] := hl
  unfold F_X7_isStopped at hF
  have e1 := ti_addc x1 1 1 rfl (by omega) (by omega)
  have e2 := ti_addc x1 2 2 rfl (by omega) (by omega)
  have e3 := ti_addc x1 3 3 rfl (by omega) (by omega)
  have e4 := ti_addc x1 4 4 rfl (by omega) (by omega)
  have e5 := ti_addc x1 5 5 rfl (by omega) (by omega)
  refine lv_aload_n hx hb dX7_isStopped_0 rfl (lv_at hl 0 rfl) ?_
  refine lv_iload_n hx hb dX7_isStopped_1 rfl (lv_at hl 1 rfl) ?_
  refine lv_iconst (v := 1) hx hb dX7_isStopped_2 (by decide) ?_
  refine lv_iadd hx hb dX7_isStopped_3 ?_
  refine lv_iconst (v := 0) hx hb dX7_isStopped_4 (by decide) ?_
  refine lv_bipush (v := 7) hx hb dX7_isStopped_5 (by decide) ?_
  refine g_callV (As := [.int (x1 + 1), .int 0, .int 7]) (rest := []) KX rfl ⟨Nat.le_of_ble_eq_true rfl, Nat.le_of_ble_eq_true rfl⟩ hh hl (c_X7_isNumber l D cI cZ cC cH o a_clock a_note a_text a_read a_fit a_shown a_image a_isKept a_row a_best m_told m_isRead1 m_clock m_note m_noted m_bytes m_text m_position m_tokenAt m_token m_digits m_number m_faultAt m_readMany m_readTold m_read m_fit m_shown m_image m_isKept m_row m_best m_againAt m_againStep m_orderMany m_orderLeast (x1 + 1) 0 7 (by first | assumption | omega | decide) (by first | assumption | omega | decide) (by first | assumption | omega | decide)) JN.all 3 gX7_isStopped_X7_isNumber rfl (by decide +kernel) ⟨Nat.le_of_ble_eq_true rfl, Nat.le_of_ble_eq_true rfl⟩ 0 7 rfl rfl rfl rfl rfl (Nat.le_of_ble_eq_true rfl) dX7_isStopped_7 (fun H locs hh => ?_)
  refine W.eq (g2 := F0 m 10 ls [.int ((F_X7_isNumber m_bytes m_text m_position m_faultAt m_read (x1 + 1) 0 7).1)]) rfl ?_
  generalize q_7 : F_X7_isNumber m_bytes m_text m_position m_faultAt m_read (x1 + 1) 0 7 = r7_1 at hh hF ⊢
  have hz_7 : r7_1.1 = 0 ∨ r7_1.1 = 1 := by rw [← q_7]; exact z_X7_isNumber _ _ _ _ _ _ _ _
  have hpos_7 : PosOk m_bytes r7_1.2.1 := by rw [← q_7]; exact ok_X7_isNumber hpos
  unfold F_X7_isStopped_c7 at hF
  have K_32 : ∀ (y0_2 : Int32) (w_m_position_3 : Int32) (w_m_tokenAt_4 : Int32) (w_m_token_5 : Int64) (w_m_digits_6 : Int32) (w_m_number_7 : Int32) (w_m_faultAt_8 : Int32) (w_m_read_9 : Nat → Int32) (hz_32 : y0_2 = 0 ∨ y0_2 = 1) (_ : R = (F_X7_isStopped_32 m_readTold x1) y0_2 w_m_position_3 w_m_tokenAt_4 w_m_token_5 w_m_digits_6 w_m_number_7 w_m_faultAt_8 w_m_read_9) (ls : Array Slot) (H : Heap) (locs : List Loc) (_ : HS D A s.heap (WM cI cZ cC cH o a_clock a_note a_text a_read a_fit a_shown a_image a_isKept a_row a_best m_told m_isRead1 m_clock m_note m_noted m_bytes m_text w_m_position_3 w_m_tokenAt_4 w_m_token_5 w_m_digits_6 w_m_number_7 w_m_faultAt_8 m_readMany m_readTold w_m_read_9 m_fit m_shown m_image m_isKept m_row m_best m_againAt m_againStep m_orderMany m_orderLeast) H locs) (_ : lv_has ls 3 [(0, .ref o), (1, .int x1)]), W p l e { frames := 3, cells := 0, slots := 0, locals := 65 } s m args below meth c H locs 0 0 Q (F0 m 32 ls [.int y0_2]) := by
    intro y0_2 w_m_position_3 w_m_tokenAt_4 w_m_token_5 w_m_digits_6 w_m_number_7 w_m_faultAt_8 w_m_read_9 hz_32 hF ls H locs hh hl
    unfold F_X7_isStopped_32 at hF
    refine lv_istore_n (lv' := [(2, .int y0_2), (0, .ref o), (1, .int x1)]) hx hb dX7_isStopped_32 rfl hl (Nat.le_of_ble_eq_true rfl) rfl (fun ls hl => ?_)
    refine lv_aload_n hx hb dX7_isStopped_33 rfl (lv_at hl 1 rfl) ?_
    refine lv_iload_n hx hb dX7_isStopped_34 rfl (lv_at hl 0 rfl) ?_
    refine lv_if_eq (tgt := 56) hx hb dX7_isStopped_35 (by decide) (fun c_35 => ?_) (fun c_35 => ?_)
    · replace hF := hF.trans (if_pos c_35)
      have i_35 : y0_2.toInt = 0 := congrArg Int32.toInt c_35
      refine lv_aload_n hx hb dX7_isStopped_56 rfl (lv_at hl 1 rfl) ?_
      refine g_get KX hh in_X7_isStopped_X7 0 rfl rfl 14 (by decide) rfl (List.mem_of_getElem? (i := 1) rfl) dX7_isStopped_57 ?_
      refine g_put KX hh in_X7_isStopped_X7 tyX7 tyX7_ok nmX7 0 rfl rfl 14 (by decide) rfl rfl rfl (Nat.le_of_ble_eq_true rfl) (List.mem_of_getElem? (i := 1) rfl) (w' := (WM cI cZ cC cH o a_clock a_note a_text a_read a_fit a_shown a_image a_isKept a_row a_best m_told m_isRead1 m_clock m_note m_noted m_bytes m_text w_m_position_3 w_m_tokenAt_4 w_m_token_5 w_m_digits_6 w_m_number_7 w_m_faultAt_8 m_readMany m_readTold w_m_read_9 m_fit m_shown m_image m_isKept m_row m_best m_againAt m_againStep m_orderMany m_orderLeast)) rfl rfl dX7_isStopped_60 (fun H locs hh => ?_)
      refine lv_iload_n hx hb dX7_isStopped_63 rfl (lv_at hl 0 rfl) ?_
      exact RT _ _ _ _ _ _ hh (by rw [hF]) (Or.inl ⟨_, rfl, by rw [hF], dX7_isStopped_64, Or.inr (Or.inl ⟨rfl, (by first | assumption | omega | decide)⟩)⟩)
    · replace hF := hF.trans (if_neg c_35)
      have i_35 : ¬ y0_2.toInt = 0 := ti_ne c_35
      refine lv_aload_n hx hb dX7_isStopped_38 rfl (lv_at hl 1 rfl) ?_
      refine g_get KX hh in_X7_isStopped_X7 0 rfl rfl 14 (by decide) rfl (List.mem_of_getElem? (i := 1) rfl) dX7_isStopped_39 ?_
      refine lv_iconst (v := 1) hx hb dX7_isStopped_42 (by decide) ?_
      refine lv_aload_n hx hb dX7_isStopped_43 rfl (lv_at hl 1 rfl) ?_
      refine g_get KX hh in_X7_isStopped_X7 0 rfl rfl 15 (by decide) rfl (List.mem_of_getElem? (i := 2) rfl) dX7_isStopped_44 ?_
      refine lv_iload_n hx hb dX7_isStopped_47 rfl (lv_at hl 2 rfl) ?_
      refine lv_iconst (v := 1) hx hb dX7_isStopped_48 (by decide) ?_
      refine lv_iadd hx hb dX7_isStopped_49 ?_
      refine g_iald KX hh 4 0 rfl rfl (vp_in_iff.mpr (by omega)) dX7_isStopped_50 ?_
      refine lv_ishl hx hb dX7_isStopped_51 ?_
      refine lv_ior hx hb dX7_isStopped_52 ?_
      refine lv_goto (tgt := 60) hx hb dX7_isStopped_53 (by decide) ?_
      refine g_put KX hh in_X7_isStopped_X7 tyX7 tyX7_ok nmX7 0 rfl rfl 14 (by decide) rfl rfl rfl (Nat.le_of_ble_eq_true rfl) (List.mem_of_getElem? (i := 1) rfl) (w' := (WM cI cZ cC cH o a_clock a_note a_text a_read a_fit a_shown a_image a_isKept a_row a_best m_told m_isRead1 m_clock m_note m_noted m_bytes m_text w_m_position_3 w_m_tokenAt_4 w_m_token_5 w_m_digits_6 w_m_number_7 w_m_faultAt_8 m_readMany (m_readTold ||| (1 <<< ((w_m_read_9 (x1 + 1).toNatClampNeg) &&& 31))) w_m_read_9 m_fit m_shown m_image m_isKept m_row m_best m_againAt m_againStep m_orderMany m_orderLeast)) rfl rfl dX7_isStopped_60 (fun H locs hh => ?_)
      refine lv_iload_n hx hb dX7_isStopped_63 rfl (lv_at hl 0 rfl) ?_
      exact RT _ _ _ _ _ _ hh (by rw [hF]) (Or.inl ⟨_, rfl, by rw [hF], dX7_isStopped_64, Or.inr (Or.inl ⟨rfl, (by first | assumption | omega | decide)⟩)⟩)
  have K_31 : ∀ (w_m_position_10 : Int32) (w_m_tokenAt_11 : Int32) (w_m_token_12 : Int64) (w_m_digits_13 : Int32) (w_m_number_14 : Int32) (w_m_faultAt_15 : Int32) (w_m_read_16 : Nat → Int32) (_ : R = (F_X7_isStopped_31 m_readTold x1) w_m_position_10 w_m_tokenAt_11 w_m_token_12 w_m_digits_13 w_m_number_14 w_m_faultAt_15 w_m_read_16) (ls : Array Slot) (H : Heap) (locs : List Loc) (_ : HS D A s.heap (WM cI cZ cC cH o a_clock a_note a_text a_read a_fit a_shown a_image a_isKept a_row a_best m_told m_isRead1 m_clock m_note m_noted m_bytes m_text w_m_position_10 w_m_tokenAt_11 w_m_token_12 w_m_digits_13 w_m_number_14 w_m_faultAt_15 m_readMany m_readTold w_m_read_16 m_fit m_shown m_image m_isKept m_row m_best m_againAt m_againStep m_orderMany m_orderLeast) H locs) (_ : lv_has ls 3 [(0, .ref o), (1, .int x1)]), W p l e { frames := 3, cells := 0, slots := 0, locals := 65 } s m args below meth c H locs 0 0 Q (F0 m 31 ls []) := by
    intro w_m_position_10 w_m_tokenAt_11 w_m_token_12 w_m_digits_13 w_m_number_14 w_m_faultAt_15 w_m_read_16 hF ls H locs hh hl
    unfold F_X7_isStopped_31 at hF
    refine lv_iconst (v := 0) hx hb dX7_isStopped_31 (by decide) ?_
    exact K_32 0 w_m_position_10 w_m_tokenAt_11 w_m_token_12 w_m_digits_13 w_m_number_14 w_m_faultAt_15 w_m_read_16 (by first | assumption | omega | decide) hF _ _ _ hh (lv_sub hl [0, 1] rfl)
  refine lv_if_eq (tgt := 31) hx hb dX7_isStopped_10 (by decide) (fun c_10 => ?_) (fun c_10 => ?_)
  · replace hF := hF.trans (if_pos c_10)
    have i_10 : r7_1.1.toInt = 0 := congrArg Int32.toInt c_10
    exact K_31 r7_1.2.1 r7_1.2.2.1 r7_1.2.2.2.1 r7_1.2.2.2.2.1 r7_1.2.2.2.2.2.1 r7_1.2.2.2.2.2.2.1 r7_1.2.2.2.2.2.2.2  hF _ _ _ hh (lv_sub hl [0, 1] rfl)
  · replace hF := hF.trans (if_neg c_10)
    have i_10 : ¬ r7_1.1.toInt = 0 := ti_ne c_10
    refine lv_aload_n hx hb dX7_isStopped_13 rfl (lv_at hl 0 rfl) ?_
    refine lv_iload_n hx hb dX7_isStopped_14 rfl (lv_at hl 1 rfl) ?_
    refine lv_iconst (v := 3) hx hb dX7_isStopped_15 (by decide) ?_
    refine lv_iadd hx hb dX7_isStopped_16 ?_
    refine lv_iconst (v := 0) hx hb dX7_isStopped_17 (by decide) ?_
    refine lv_sipush (v := 719) hx hb dX7_isStopped_18 (by decide) ?_
    refine g_callV (As := [.int (x1 + 3), .int 0, .int 719]) (rest := []) KX rfl ⟨Nat.le_of_ble_eq_true rfl, Nat.le_of_ble_eq_true rfl⟩ hh hl (c_X7_isNumber l D cI cZ cC cH o a_clock a_note a_text a_read a_fit a_shown a_image a_isKept a_row a_best m_told m_isRead1 m_clock m_note m_noted m_bytes m_text r7_1.2.1 r7_1.2.2.1 r7_1.2.2.2.1 r7_1.2.2.2.2.1 r7_1.2.2.2.2.2.1 r7_1.2.2.2.2.2.2.1 m_readMany m_readTold r7_1.2.2.2.2.2.2.2 m_fit m_shown m_image m_isKept m_row m_best m_againAt m_againStep m_orderMany m_orderLeast (x1 + 3) 0 719 (by first | assumption | omega | decide) (by first | assumption | omega | decide) (by first | assumption | omega | decide)) JN.all 3 gX7_isStopped_X7_isNumber rfl (by decide +kernel) ⟨Nat.le_of_ble_eq_true rfl, Nat.le_of_ble_eq_true rfl⟩ 0 7 rfl rfl rfl rfl rfl (Nat.le_of_ble_eq_true rfl) dX7_isStopped_21 (fun H locs hh => ?_)
    refine W.eq (g2 := F0 m 24 ls [.int ((F_X7_isNumber m_bytes m_text r7_1.2.1 r7_1.2.2.2.2.2.2.1 r7_1.2.2.2.2.2.2.2 (x1 + 3) 0 719).1)]) rfl ?_
    generalize q_21 : F_X7_isNumber m_bytes m_text r7_1.2.1 r7_1.2.2.2.2.2.2.1 r7_1.2.2.2.2.2.2.2 (x1 + 3) 0 719 = r21_17 at hh hF ⊢
    have hz_21 : r21_17.1 = 0 ∨ r21_17.1 = 1 := by rw [← q_21]; exact z_X7_isNumber _ _ _ _ _ _ _ _
    have hpos_21 : PosOk m_bytes r21_17.2.1 := by rw [← q_21]; exact ok_X7_isNumber hpos_7
    unfold F_X7_isStopped_c21 at hF
    refine lv_if_eq (tgt := 31) hx hb dX7_isStopped_24 (by decide) (fun c_24 => ?_) (fun c_24 => ?_)
    · replace hF := hF.trans (if_pos c_24)
      have i_24 : r21_17.1.toInt = 0 := congrArg Int32.toInt c_24
      exact K_31 r21_17.2.1 r21_17.2.2.1 r21_17.2.2.2.1 r21_17.2.2.2.2.1 r21_17.2.2.2.2.2.1 r21_17.2.2.2.2.2.2.1 r21_17.2.2.2.2.2.2.2  hF _ _ _ hh (lv_sub hl [0, 1] rfl)
    · replace hF := hF.trans (if_neg c_24)
      have i_24 : ¬ r21_17.1.toInt = 0 := ti_ne c_24
      refine lv_iconst (v := 1) hx hb dX7_isStopped_27 (by decide) ?_
      refine lv_goto (tgt := 32) hx hb dX7_isStopped_28 (by decide) ?_
      exact K_32 1 r21_17.2.1 r21_17.2.2.1 r21_17.2.2.2.1 r21_17.2.2.2.2.1 r21_17.2.2.2.2.2.1 r21_17.2.2.2.2.2.2.1 r21_17.2.2.2.2.2.2.2 (by first | assumption | omega | decide) hF _ _ _ hh (lv_sub hl [0, 1] rfl)
theorem zb_F_X7_isStopped_32 {m_readTold : Int32} {x1 : Int32} {y0_2 : Int32} {w_m_position_3 : Int32} {w_m_tokenAt_4 : Int32} {w_m_token_5 : Int64} {w_m_digits_6 : Int32} {w_m_number_7 : Int32} {w_m_faultAt_8 : Int32} {w_m_read_9 : Nat → Int32} (hz0 : y0_2 = 0 ∨ y0_2 = 1) : (F_X7_isStopped_32 m_readTold x1 y0_2 w_m_position_3 w_m_tokenAt_4 w_m_token_5 w_m_digits_6 w_m_number_7 w_m_faultAt_8 w_m_read_9).1 = 0 ∨ (F_X7_isStopped_32 m_readTold x1 y0_2 w_m_position_3 w_m_tokenAt_4 w_m_token_5 w_m_digits_6 w_m_number_7 w_m_faultAt_8 w_m_read_9).1 = 1 := by
  unfold F_X7_isStopped_32
  repeat' split
  all_goals first | with_reducible assumption | with_reducible exact z_X7_isNumber _ _ _ _ _ _ _ _ | ((try dsimp only); first | with_reducible exact Or.inl rfl | with_reducible exact Or.inr rfl | with_reducible assumption)
theorem zb_F_X7_isStopped_31 {m_readTold : Int32} {x1 : Int32} {w_m_position_10 : Int32} {w_m_tokenAt_11 : Int32} {w_m_token_12 : Int64} {w_m_digits_13 : Int32} {w_m_number_14 : Int32} {w_m_faultAt_15 : Int32} {w_m_read_16 : Nat → Int32} : (F_X7_isStopped_31 m_readTold x1 w_m_position_10 w_m_tokenAt_11 w_m_token_12 w_m_digits_13 w_m_number_14 w_m_faultAt_15 w_m_read_16).1 = 0 ∨ (F_X7_isStopped_31 m_readTold x1 w_m_position_10 w_m_tokenAt_11 w_m_token_12 w_m_digits_13 w_m_number_14 w_m_faultAt_15 w_m_read_16).1 = 1 := by
  unfold F_X7_isStopped_31
  repeat' split
  all_goals first | with_reducible assumption | with_reducible exact z_X7_isNumber _ _ _ _ _ _ _ _ | with_reducible exact zb_F_X7_isStopped_32 (by with_reducible assumption) | with_reducible exact zb_F_X7_isStopped_32 (Or.inl rfl) | with_reducible exact zb_F_X7_isStopped_32 (Or.inr rfl) | ((try dsimp only); first | with_reducible exact Or.inl rfl | with_reducible exact Or.inr rfl | with_reducible assumption)
theorem zb_F_X7_isStopped_c21 {m_readTold : Int32} {x1 : Int32} {r21_17 : Int32 × Int32 × Int32 × Int64 × Int32 × Int32 × Int32 × (Nat → Int32)} (hz0 : r21_17.1 = 0 ∨ r21_17.1 = 1) : (F_X7_isStopped_c21 m_readTold x1 r21_17).1 = 0 ∨ (F_X7_isStopped_c21 m_readTold x1 r21_17).1 = 1 := by
  unfold F_X7_isStopped_c21
  repeat' split
  all_goals first | with_reducible assumption | with_reducible exact z_X7_isNumber _ _ _ _ _ _ _ _ | with_reducible exact zb_F_X7_isStopped_32 (by with_reducible assumption) | with_reducible exact zb_F_X7_isStopped_32 (Or.inl rfl) | with_reducible exact zb_F_X7_isStopped_32 (Or.inr rfl) | with_reducible exact zb_F_X7_isStopped_31 | ((try dsimp only); first | with_reducible exact Or.inl rfl | with_reducible exact Or.inr rfl | with_reducible assumption)
theorem zb_F_X7_isStopped_c7 {m_bytes : Int32} {m_text : Nat → Int32} {m_readTold : Int32} {x1 : Int32} {r7_1 : Int32 × Int32 × Int32 × Int64 × Int32 × Int32 × Int32 × (Nat → Int32)} (hz0 : r7_1.1 = 0 ∨ r7_1.1 = 1) : (F_X7_isStopped_c7 m_bytes m_text m_readTold x1 r7_1).1 = 0 ∨ (F_X7_isStopped_c7 m_bytes m_text m_readTold x1 r7_1).1 = 1 := by
  unfold F_X7_isStopped_c7
  repeat' split
  all_goals first | with_reducible assumption | with_reducible exact z_X7_isNumber _ _ _ _ _ _ _ _ | with_reducible exact zb_F_X7_isStopped_32 (by with_reducible assumption) | with_reducible exact zb_F_X7_isStopped_32 (Or.inl rfl) | with_reducible exact zb_F_X7_isStopped_32 (Or.inr rfl) | with_reducible exact zb_F_X7_isStopped_31 | with_reducible exact zb_F_X7_isStopped_c21 (by with_reducible assumption) | with_reducible exact zb_F_X7_isStopped_c21 (Or.inl rfl) | with_reducible exact zb_F_X7_isStopped_c21 (Or.inr rfl) | with_reducible exact zb_F_X7_isStopped_c21 (z_X7_isNumber _ _ _ _ _ _ _ _) | ((try dsimp only); first | with_reducible exact Or.inl rfl | with_reducible exact Or.inr rfl | with_reducible assumption)
theorem z_X7_isStopped (m_bytes : Int32) (m_text : Nat → Int32) (m_position : Int32) (m_faultAt : Int32) (m_readTold : Int32) (m_read : Nat → Int32) (x1 : Int32) : (F_X7_isStopped m_bytes m_text m_position m_faultAt m_readTold m_read x1).1 = 0 ∨ (F_X7_isStopped m_bytes m_text m_position m_faultAt m_readTold m_read x1).1 = 1 := by
  unfold F_X7_isStopped
  repeat' split
  all_goals first | with_reducible assumption | with_reducible exact z_X7_isNumber _ _ _ _ _ _ _ _ | with_reducible exact zb_F_X7_isStopped_32 (by with_reducible assumption) | with_reducible exact zb_F_X7_isStopped_32 (Or.inl rfl) | with_reducible exact zb_F_X7_isStopped_32 (Or.inr rfl) | with_reducible exact zb_F_X7_isStopped_31 | with_reducible exact zb_F_X7_isStopped_c21 (by with_reducible assumption) | with_reducible exact zb_F_X7_isStopped_c21 (Or.inl rfl) | with_reducible exact zb_F_X7_isStopped_c21 (Or.inr rfl) | with_reducible exact zb_F_X7_isStopped_c21 (z_X7_isNumber _ _ _ _ _ _ _ _) | with_reducible exact zb_F_X7_isStopped_c7 (by with_reducible assumption) | with_reducible exact zb_F_X7_isStopped_c7 (Or.inl rfl) | with_reducible exact zb_F_X7_isStopped_c7 (Or.inr rfl) | with_reducible exact zb_F_X7_isStopped_c7 (z_X7_isNumber _ _ _ _ _ _ _ _) | ((try dsimp only); first | with_reducible exact Or.inl rfl | with_reducible exact Or.inr rfl | with_reducible assumption)
def F_X7_isNow_c48 (r7_1 : Int32 × Int32 × Int32 × Int64 × Int32 × Int32 × Int32 × (Nat → Int32)) (r48_2 : Int32 × Int32) : Int32 × Int32 × Int32 × Int64 × Int32 × Int32 × Int32 × (Nat → Int32) := (r48_2.1, r7_1.2.1, r7_1.2.2.1, r7_1.2.2.2.1, r7_1.2.2.2.2.1, r7_1.2.2.2.2.2.1, r48_2.2, r7_1.2.2.2.2.2.2.2)
def F_X7_isNow_c41  (r41_3 : Int32 × Int32 × Int32 × Int64 × Int32 × Int32 × Int32 × (Nat → Int32)) : Int32 × Int32 × Int32 × Int64 × Int32 × Int32 × Int32 × (Nat → Int32) := (r41_3.1, r41_3.2.1, r41_3.2.2.1, r41_3.2.2.2.1, r41_3.2.2.2.2.1, r41_3.2.2.2.2.2.1, r41_3.2.2.2.2.2.2.1, r41_3.2.2.2.2.2.2.2)
def F_X7_isNow_c7 (m_bytes : Int32) (m_text : Nat → Int32) (m_readTold : Int32) (x1 : Int32) (r7_1 : Int32 × Int32 × Int32 × Int64 × Int32 × Int32 × Int32 × (Nat → Int32)) : Int32 × Int32 × Int32 × Int64 × Int32 × Int32 × Int32 × (Nat → Int32) := (if r7_1.1 = 0 then (0, r7_1.2.1, r7_1.2.2.1, r7_1.2.2.2.1, r7_1.2.2.2.2.1, r7_1.2.2.2.2.2.1, r7_1.2.2.2.2.2.2.1, r7_1.2.2.2.2.2.2.2) else (if (F_X7_has m_readTold (r7_1.2.2.2.2.2.2.2 (x1 + 1).toNatClampNeg)) = 0 then (F_X7_isNow_c48 r7_1 (F_X7_fails r7_1.2.2.1)) else (F_X7_isNow_c41 (F_X7_isNumber m_bytes m_text r7_1.2.1 r7_1.2.2.2.2.2.2.1 r7_1.2.2.2.2.2.2.2 (x1 + 2) 0 719))))
def F_X7_isNow (m_bytes : Int32) (m_text : Nat → Int32) (m_position : Int32) (m_faultAt : Int32) (m_readTold : Int32) (m_read : Nat → Int32) (x1 : Int32) : Int32 × Int32 × Int32 × Int64 × Int32 × Int32 × Int32 × (Nat → Int32) := (F_X7_isNow_c7 m_bytes m_text m_readTold x1 (F_X7_isNumber m_bytes m_text m_position m_faultAt m_read (x1 + 1) 0 7))
theorem in_X7_isNow_X7 : ∀ x ∈ u_ws RX7 TX7 26, x ∈ wsX7_isNow := by decide +kernel
set_option maxHeartbeats 8000000 in
set_option maxRecDepth 100000 in
theorem c_X7_isNow (l : Launch) (D : va_G) (cI cZ cC cH : ClassId) (o a_clock a_note a_text a_read a_fit a_shown a_image a_isKept a_row a_best : Nat) (m_told : Int32) (m_isRead1 : Int32) (m_clock : Nat → Int32) (m_note : Nat → Int32) (m_noted : Int32) (m_bytes : Int32) (m_text : Nat → Int32) (m_position : Int32) (m_tokenAt : Int32) (m_token : Int64) (m_digits : Int32) (m_number : Int32) (m_faultAt : Int32) (m_readMany : Int32) (m_readTold : Int32) (m_read : Nat → Int32) (m_fit : Nat → Int32) (m_shown : Nat → Int32) (m_image : Nat → Int32) (m_isKept : Nat → Int32) (m_row : Nat → Int32) (m_best : Nat → Int32) (m_againAt : Int32) (m_againStep : Int32) (m_orderMany : Int32) (m_orderLeast : Int32) (x1 : Int32) (hpos : PosOk m_bytes m_position) (hw0 : 0 ≤ x1.toInt) (hw1 : x1.toInt ≤ 42) : MC l D (TY cI cZ cC cH) yX7_isNow wsX7_isNow 3 65 [.ref o, .int x1] (WM cI cZ cC cH o a_clock a_note a_text a_read a_fit a_shown a_image a_isKept a_row a_best m_told m_isRead1 m_clock m_note m_noted m_bytes m_text m_position m_tokenAt m_token m_digits m_number m_faultAt m_readMany m_readTold m_read m_fit m_shown m_image m_isKept m_row m_best m_againAt m_againStep m_orderMany m_orderLeast) (some (.int ((F_X7_isNow m_bytes m_text m_position m_faultAt m_readTold m_read x1).1))) (WM cI cZ cC cH o a_clock a_note a_text a_read a_fit a_shown a_image a_isKept a_row a_best m_told m_isRead1 m_clock m_note m_noted m_bytes m_text (F_X7_isNow m_bytes m_text m_position m_faultAt m_readTold m_read x1).2.1 (F_X7_isNow m_bytes m_text m_position m_faultAt m_readTold m_read x1).2.2.1 (F_X7_isNow m_bytes m_text m_position m_faultAt m_readTold m_read x1).2.2.2.1 (F_X7_isNow m_bytes m_text m_position m_faultAt m_readTold m_read x1).2.2.2.2.1 (F_X7_isNow m_bytes m_text m_position m_faultAt m_readTold m_read x1).2.2.2.2.2.1 (F_X7_isNow m_bytes m_text m_position m_faultAt m_readTold m_read x1).2.2.2.2.2.2.1 m_readMany m_readTold (F_X7_isNow m_bytes m_text m_position m_faultAt m_readTold m_read x1).2.2.2.2.2.2.2 m_fit m_shown m_image m_isKept m_row m_best m_againAt m_againStep m_orderMany m_orderLeast) := by
  obtain ⟨R, hF⟩ : ∃ R, R = F_X7_isNow m_bytes m_text m_position m_faultAt m_readTold m_read x1 := ⟨_, rfl⟩
  rw [← hF]
  refine MC.of (cc := cX7_isNow) (maxL := 2) (ret := (some .boolean)) RX7 rfl (by decide +kernel) rfl (Nat.le_of_ble_eq_true rfl) ?_
  intro p e s m args below meth c A Q KX RT hh ls hl
  have z0 : (0 : Int32).toInt = 0 := rfl
  have z1 : (1 : Int32).toInt = 1 := rfl
  have zm : (-1 : Int32).toInt = -1 := rfl
  have hx := KX.1
  have hb := KX.2.1
  have hl : lv_has ls 2 [(0, .ref o), (1, .int x1)] := hl
  unfold F_X7_isNow at hF
  have e1 := ti_addc x1 1 1 rfl (by omega) (by omega)
  have e2 := ti_addc x1 2 2 rfl (by omega) (by omega)
  have e3 := ti_addc x1 3 3 rfl (by omega) (by omega)
  have e4 := ti_addc x1 4 4 rfl (by omega) (by omega)
  have e5 := ti_addc x1 5 5 rfl (by omega) (by omega)
  refine lv_aload_n hx hb dX7_isNow_0 rfl (lv_at hl 0 rfl) ?_
  refine lv_iload_n hx hb dX7_isNow_1 rfl (lv_at hl 1 rfl) ?_
  refine lv_iconst (v := 1) hx hb dX7_isNow_2 (by decide) ?_
  refine lv_iadd hx hb dX7_isNow_3 ?_
  refine lv_iconst (v := 0) hx hb dX7_isNow_4 (by decide) ?_
  refine lv_bipush (v := 7) hx hb dX7_isNow_5 (by decide) ?_
  refine g_callV (As := [.int (x1 + 1), .int 0, .int 7]) (rest := []) KX rfl ⟨Nat.le_of_ble_eq_true rfl, Nat.le_of_ble_eq_true rfl⟩ hh hl (c_X7_isNumber l D cI cZ cC cH o a_clock a_note a_text a_read a_fit a_shown a_image a_isKept a_row a_best m_told m_isRead1 m_clock m_note m_noted m_bytes m_text m_position m_tokenAt m_token m_digits m_number m_faultAt m_readMany m_readTold m_read m_fit m_shown m_image m_isKept m_row m_best m_againAt m_againStep m_orderMany m_orderLeast (x1 + 1) 0 7 (by first | assumption | omega | decide) (by first | assumption | omega | decide) (by first | assumption | omega | decide)) JN.all 3 gX7_isNow_X7_isNumber rfl (by decide +kernel) ⟨Nat.le_of_ble_eq_true rfl, Nat.le_of_ble_eq_true rfl⟩ 0 7 rfl rfl rfl rfl rfl (Nat.le_of_ble_eq_true rfl) dX7_isNow_7 (fun H locs hh => ?_)
  refine W.eq (g2 := F0 m 10 ls [.int ((F_X7_isNumber m_bytes m_text m_position m_faultAt m_read (x1 + 1) 0 7).1)]) rfl ?_
  generalize q_7 : F_X7_isNumber m_bytes m_text m_position m_faultAt m_read (x1 + 1) 0 7 = r7_1 at hh hF ⊢
  have hz_7 : r7_1.1 = 0 ∨ r7_1.1 = 1 := by rw [← q_7]; exact z_X7_isNumber _ _ _ _ _ _ _ _
  have hpos_7 : PosOk m_bytes r7_1.2.1 := by rw [← q_7]; exact ok_X7_isNumber hpos
  unfold F_X7_isNow_c7 at hF
  refine lv_if_ne (tgt := 15) hx hb dX7_isNow_10 (by decide) (fun c_10 => ?_) (fun c_10 => ?_)
  · replace hF := hF.trans (if_neg c_10)
    have i_10 : ¬ r7_1.1.toInt = 0 := ti_ne c_10
    refine lv_aload_n hx hb dX7_isNow_15 rfl (lv_at hl 0 rfl) ?_
    refine g_get KX hh in_X7_isNow_X7 0 rfl rfl 14 (by decide) rfl (List.mem_of_getElem? (i := 1) rfl) dX7_isNow_16 ?_
    refine lv_aload_n hx hb dX7_isNow_19 rfl (lv_at hl 0 rfl) ?_
    refine g_get KX hh in_X7_isNow_X7 0 rfl rfl 15 (by decide) rfl (List.mem_of_getElem? (i := 2) rfl) dX7_isNow_20 ?_
    refine lv_iload_n hx hb dX7_isNow_23 rfl (lv_at hl 1 rfl) ?_
    refine lv_iconst (v := 1) hx hb dX7_isNow_24 (by decide) ?_
    refine lv_iadd hx hb dX7_isNow_25 ?_
    refine g_iald KX hh 4 0 rfl rfl (vp_in_iff.mpr (by omega)) dX7_isNow_26 ?_
    refine g_callS (As := [.int m_readTold, .int (r7_1.2.2.2.2.2.2.2 (x1 + 1).toNatClampNeg)]) (rest := []) KX rfl ⟨Nat.le_of_ble_eq_true rfl, Nat.le_of_ble_eq_true rfl⟩ hh hl (c_X7_has l D cI cZ cC cH  m_readTold (r7_1.2.2.2.2.2.2.2 (x1 + 1).toNatClampNeg) ) JN.no 2 gX7_isNow_X7_has rfl (by decide +kernel) ⟨Nat.le_of_ble_eq_true rfl, Nat.le_of_ble_eq_true rfl⟩ rfl rfl (Nat.le_of_ble_eq_true rfl) dX7_isNow_27 (fun H locs hh => ?_)
    refine W.eq (g2 := F0 m 30 ls [.int (F_X7_has m_readTold (r7_1.2.2.2.2.2.2.2 (x1 + 1).toNatClampNeg))]) rfl ?_
    refine lv_if_eq (tgt := 47) hx hb dX7_isNow_30 (by decide) (fun c_30 => ?_) (fun c_30 => ?_)
    · replace hF := hF.trans (if_pos c_30)
      have i_30 : (F_X7_has m_readTold (r7_1.2.2.2.2.2.2.2 (x1 + 1).toNatClampNeg)).toInt = 0 := congrArg Int32.toInt c_30
      refine lv_aload_n hx hb dX7_isNow_47 rfl (lv_at hl 0 rfl) ?_
      refine g_callV (As := []) (rest := []) KX rfl ⟨Nat.le_of_ble_eq_true rfl, Nat.le_of_ble_eq_true rfl⟩ hh hl (c_X7_fails l D cI cZ cC cH o a_clock a_note a_text a_read a_fit a_shown a_image a_isKept a_row a_best m_told m_isRead1 m_clock m_note m_noted m_bytes m_text r7_1.2.1 r7_1.2.2.1 r7_1.2.2.2.1 r7_1.2.2.2.2.1 r7_1.2.2.2.2.2.1 r7_1.2.2.2.2.2.2.1 m_readMany m_readTold r7_1.2.2.2.2.2.2.2 m_fit m_shown m_image m_isKept m_row m_best m_againAt m_againStep m_orderMany m_orderLeast  ) JN.all 0 gX7_isNow_X7_fails rfl (by decide +kernel) ⟨Nat.le_of_ble_eq_true rfl, Nat.le_of_ble_eq_true rfl⟩ 0 7 rfl rfl rfl rfl rfl (Nat.le_of_ble_eq_true rfl) dX7_isNow_48 (fun H locs hh => ?_)
      refine W.eq (g2 := F0 m 51 ls [.int ((F_X7_fails r7_1.2.2.1).1)]) rfl ?_
      generalize q_48 : F_X7_fails r7_1.2.2.1 = r48_2 at hh hF ⊢
      have hz_48 : r48_2.1 = 0 ∨ r48_2.1 = 1 := by rw [← q_48]; exact z_X7_fails _
      unfold F_X7_isNow_c48 at hF
      exact RT _ _ _ _ _ _ hh (by rw [hF]) (Or.inl ⟨_, rfl, by rw [hF], dX7_isNow_51, Or.inr (Or.inl ⟨rfl, (by first | assumption | omega | decide)⟩)⟩)
    · replace hF := hF.trans (if_neg c_30)
      have i_30 : ¬ (F_X7_has m_readTold (r7_1.2.2.2.2.2.2.2 (x1 + 1).toNatClampNeg)).toInt = 0 := ti_ne c_30
      refine lv_aload_n hx hb dX7_isNow_33 rfl (lv_at hl 0 rfl) ?_
      refine lv_iload_n hx hb dX7_isNow_34 rfl (lv_at hl 1 rfl) ?_
      refine lv_iconst (v := 2) hx hb dX7_isNow_35 (by decide) ?_
      refine lv_iadd hx hb dX7_isNow_36 ?_
      refine lv_iconst (v := 0) hx hb dX7_isNow_37 (by decide) ?_
      refine lv_sipush (v := 719) hx hb dX7_isNow_38 (by decide) ?_
      refine g_callV (As := [.int (x1 + 2), .int 0, .int 719]) (rest := []) KX rfl ⟨Nat.le_of_ble_eq_true rfl, Nat.le_of_ble_eq_true rfl⟩ hh hl (c_X7_isNumber l D cI cZ cC cH o a_clock a_note a_text a_read a_fit a_shown a_image a_isKept a_row a_best m_told m_isRead1 m_clock m_note m_noted m_bytes m_text r7_1.2.1 r7_1.2.2.1 r7_1.2.2.2.1 r7_1.2.2.2.2.1 r7_1.2.2.2.2.2.1 r7_1.2.2.2.2.2.2.1 m_readMany m_readTold r7_1.2.2.2.2.2.2.2 m_fit m_shown m_image m_isKept m_row m_best m_againAt m_againStep m_orderMany m_orderLeast (x1 + 2) 0 719 (by first | assumption | omega | decide) (by first | assumption | omega | decide) (by first | assumption | omega | decide)) JN.all 3 gX7_isNow_X7_isNumber rfl (by decide +kernel) ⟨Nat.le_of_ble_eq_true rfl, Nat.le_of_ble_eq_true rfl⟩ 0 7 rfl rfl rfl rfl rfl (Nat.le_of_ble_eq_true rfl) dX7_isNow_41 (fun H locs hh => ?_)
      refine W.eq (g2 := F0 m 44 ls [.int ((F_X7_isNumber m_bytes m_text r7_1.2.1 r7_1.2.2.2.2.2.2.1 r7_1.2.2.2.2.2.2.2 (x1 + 2) 0 719).1)]) rfl ?_
      generalize q_41 : F_X7_isNumber m_bytes m_text r7_1.2.1 r7_1.2.2.2.2.2.2.1 r7_1.2.2.2.2.2.2.2 (x1 + 2) 0 719 = r41_3 at hh hF ⊢
      have hz_41 : r41_3.1 = 0 ∨ r41_3.1 = 1 := by rw [← q_41]; exact z_X7_isNumber _ _ _ _ _ _ _ _
      have hpos_41 : PosOk m_bytes r41_3.2.1 := by rw [← q_41]; exact ok_X7_isNumber hpos_7
      unfold F_X7_isNow_c41 at hF
      refine lv_goto (tgt := 51) hx hb dX7_isNow_44 (by decide) ?_
      exact RT _ _ _ _ _ _ hh (by rw [hF]) (Or.inl ⟨_, rfl, by rw [hF], dX7_isNow_51, Or.inr (Or.inl ⟨rfl, (by first | assumption | omega | decide)⟩)⟩)
  · replace hF := hF.trans (if_pos c_10)
    have i_10 : r7_1.1.toInt = 0 := congrArg Int32.toInt c_10
    refine lv_iconst (v := 0) hx hb dX7_isNow_13 (by decide) ?_
    exact RT _ _ _ _ _ _ hh (by rw [hF]) (Or.inl ⟨_, rfl, by rw [hF], dX7_isNow_14, Or.inr (Or.inl ⟨rfl, Or.inl rfl⟩)⟩)
theorem zb_F_X7_isNow_c48 {r7_1 : Int32 × Int32 × Int32 × Int64 × Int32 × Int32 × Int32 × (Nat → Int32)} {r48_2 : Int32 × Int32} (hz0 : r48_2.1 = 0 ∨ r48_2.1 = 1) : (F_X7_isNow_c48 r7_1 r48_2).1 = 0 ∨ (F_X7_isNow_c48 r7_1 r48_2).1 = 1 := by
  unfold F_X7_isNow_c48
  repeat' split
  all_goals first | with_reducible assumption | with_reducible exact z_X7_isNumber _ _ _ _ _ _ _ _ | with_reducible exact z_X7_has _ _ | with_reducible exact z_X7_fails _ | ((try dsimp only); first | with_reducible exact Or.inl rfl | with_reducible exact Or.inr rfl | with_reducible assumption)
theorem zb_F_X7_isNow_c41  {r41_3 : Int32 × Int32 × Int32 × Int64 × Int32 × Int32 × Int32 × (Nat → Int32)} (hz0 : r41_3.1 = 0 ∨ r41_3.1 = 1) : (F_X7_isNow_c41 r41_3).1 = 0 ∨ (F_X7_isNow_c41 r41_3).1 = 1 := by
  unfold F_X7_isNow_c41
  repeat' split
  all_goals first | with_reducible assumption | with_reducible exact z_X7_isNumber _ _ _ _ _ _ _ _ | with_reducible exact z_X7_has _ _ | with_reducible exact z_X7_fails _ | with_reducible exact zb_F_X7_isNow_c48 (by with_reducible assumption) | with_reducible exact zb_F_X7_isNow_c48 (Or.inl rfl) | with_reducible exact zb_F_X7_isNow_c48 (Or.inr rfl) | with_reducible exact zb_F_X7_isNow_c48 (z_X7_fails _) | ((try dsimp only); first | with_reducible exact Or.inl rfl | with_reducible exact Or.inr rfl | with_reducible assumption)
theorem zb_F_X7_isNow_c7 {m_bytes : Int32} {m_text : Nat → Int32} {m_readTold : Int32} {x1 : Int32} {r7_1 : Int32 × Int32 × Int32 × Int64 × Int32 × Int32 × Int32 × (Nat → Int32)} (hz0 : r7_1.1 = 0 ∨ r7_1.1 = 1) : (F_X7_isNow_c7 m_bytes m_text m_readTold x1 r7_1).1 = 0 ∨ (F_X7_isNow_c7 m_bytes m_text m_readTold x1 r7_1).1 = 1 := by
  unfold F_X7_isNow_c7
  repeat' split
  all_goals first | with_reducible assumption | with_reducible exact z_X7_isNumber _ _ _ _ _ _ _ _ | with_reducible exact z_X7_has _ _ | with_reducible exact z_X7_fails _ | with_reducible exact zb_F_X7_isNow_c48 (by with_reducible assumption) | with_reducible exact zb_F_X7_isNow_c48 (Or.inl rfl) | with_reducible exact zb_F_X7_isNow_c48 (Or.inr rfl) | with_reducible exact zb_F_X7_isNow_c48 (z_X7_fails _) | with_reducible exact zb_F_X7_isNow_c41 (by with_reducible assumption) | with_reducible exact zb_F_X7_isNow_c41 (Or.inl rfl) | with_reducible exact zb_F_X7_isNow_c41 (Or.inr rfl) | with_reducible exact zb_F_X7_isNow_c41 (z_X7_isNumber _ _ _ _ _ _ _ _) | ((try dsimp only); first | with_reducible exact Or.inl rfl | with_reducible exact Or.inr rfl | with_reducible assumption)
theorem z_X7_isNow (m_bytes : Int32) (m_text : Nat → Int32) (m_position : Int32) (m_faultAt : Int32) (m_readTold : Int32) (m_read : Nat → Int32) (x1 : Int32) : (F_X7_isNow m_bytes m_text m_position m_faultAt m_readTold m_read x1).1 = 0 ∨ (F_X7_isNow m_bytes m_text m_position m_faultAt m_readTold m_read x1).1 = 1 := by
  unfold F_X7_isNow
  repeat' split
  all_goals first | with_reducible assumption | with_reducible exact z_X7_isNumber _ _ _ _ _ _ _ _ | with_reducible exact z_X7_has _ _ | with_reducible exact z_X7_fails _ | with_reducible exact zb_F_X7_isNow_c48 (by with_reducible assumption) | with_reducible exact zb_F_X7_isNow_c48 (Or.inl rfl) | with_reducible exact zb_F_X7_isNow_c48 (Or.inr rfl) | with_reducible exact zb_F_X7_isNow_c48 (z_X7_fails _) | with_reducible exact zb_F_X7_isNow_c41 (by with_reducible assumption) | with_reducible exact zb_F_X7_isNow_c41 (Or.inl rfl) | with_reducible exact zb_F_X7_isNow_c41 (Or.inr rfl) | with_reducible exact zb_F_X7_isNow_c41 (z_X7_isNumber _ _ _ _ _ _ _ _) | with_reducible exact zb_F_X7_isNow_c7 (by with_reducible assumption) | with_reducible exact zb_F_X7_isNow_c7 (Or.inl rfl) | with_reducible exact zb_F_X7_isNow_c7 (Or.inr rfl) | with_reducible exact zb_F_X7_isNow_c7 (z_X7_isNumber _ _ _ _ _ _ _ _) | ((try dsimp only); first | with_reducible exact Or.inl rfl | with_reducible exact Or.inr rfl | with_reducible assumption)
def F_X7_isGone_c7 (m_readTold : Int32) (x1 : Int32) (r7_1 : Int32 × Int32 × Int32 × Int64 × Int32 × Int32 × Int32 × (Nat → Int32)) : Int32 × Int32 × Int32 × Int64 × Int32 × Int32 × Int32 × Int32 × (Nat → Int32) := (if r7_1.1 = 0 then (r7_1.1, r7_1.2.1, r7_1.2.2.1, r7_1.2.2.2.1, r7_1.2.2.2.2.1, r7_1.2.2.2.2.2.1, r7_1.2.2.2.2.2.2.1, m_readTold, r7_1.2.2.2.2.2.2.2) else (r7_1.1, r7_1.2.1, r7_1.2.2.1, r7_1.2.2.2.1, r7_1.2.2.2.2.1, r7_1.2.2.2.2.2.1, r7_1.2.2.2.2.2.2.1, m_readTold &&& ((1 <<< ((r7_1.2.2.2.2.2.2.2 (x1 + 1).toNatClampNeg) &&& 31)) ^^^ (-1)), r7_1.2.2.2.2.2.2.2))
def F_X7_isGone (m_bytes : Int32) (m_text : Nat → Int32) (m_position : Int32) (m_faultAt : Int32) (m_readTold : Int32) (m_read : Nat → Int32) (x1 : Int32) : Int32 × Int32 × Int32 × Int64 × Int32 × Int32 × Int32 × Int32 × (Nat → Int32) := (F_X7_isGone_c7 m_readTold x1 (F_X7_isNumber m_bytes m_text m_position m_faultAt m_read (x1 + 1) 0 7))
theorem in_X7_isGone_X7 : ∀ x ∈ u_ws RX7 TX7 26, x ∈ wsX7_isGone := by decide +kernel
set_option maxHeartbeats 8000000 in
set_option maxRecDepth 100000 in
theorem c_X7_isGone (l : Launch) (D : va_G) (cI cZ cC cH : ClassId) (o a_clock a_note a_text a_read a_fit a_shown a_image a_isKept a_row a_best : Nat) (m_told : Int32) (m_isRead1 : Int32) (m_clock : Nat → Int32) (m_note : Nat → Int32) (m_noted : Int32) (m_bytes : Int32) (m_text : Nat → Int32) (m_position : Int32) (m_tokenAt : Int32) (m_token : Int64) (m_digits : Int32) (m_number : Int32) (m_faultAt : Int32) (m_readMany : Int32) (m_readTold : Int32) (m_read : Nat → Int32) (m_fit : Nat → Int32) (m_shown : Nat → Int32) (m_image : Nat → Int32) (m_isKept : Nat → Int32) (m_row : Nat → Int32) (m_best : Nat → Int32) (m_againAt : Int32) (m_againStep : Int32) (m_orderMany : Int32) (m_orderLeast : Int32) (x1 : Int32) (hpos : PosOk m_bytes m_position) (hw0 : 0 ≤ x1.toInt) (hw1 : x1.toInt ≤ 42) : MC l D (TY cI cZ cC cH) yX7_isGone wsX7_isGone 3 65 [.ref o, .int x1] (WM cI cZ cC cH o a_clock a_note a_text a_read a_fit a_shown a_image a_isKept a_row a_best m_told m_isRead1 m_clock m_note m_noted m_bytes m_text m_position m_tokenAt m_token m_digits m_number m_faultAt m_readMany m_readTold m_read m_fit m_shown m_image m_isKept m_row m_best m_againAt m_againStep m_orderMany m_orderLeast) (some (.int ((F_X7_isGone m_bytes m_text m_position m_faultAt m_readTold m_read x1).1))) (WM cI cZ cC cH o a_clock a_note a_text a_read a_fit a_shown a_image a_isKept a_row a_best m_told m_isRead1 m_clock m_note m_noted m_bytes m_text (F_X7_isGone m_bytes m_text m_position m_faultAt m_readTold m_read x1).2.1 (F_X7_isGone m_bytes m_text m_position m_faultAt m_readTold m_read x1).2.2.1 (F_X7_isGone m_bytes m_text m_position m_faultAt m_readTold m_read x1).2.2.2.1 (F_X7_isGone m_bytes m_text m_position m_faultAt m_readTold m_read x1).2.2.2.2.1 (F_X7_isGone m_bytes m_text m_position m_faultAt m_readTold m_read x1).2.2.2.2.2.1 (F_X7_isGone m_bytes m_text m_position m_faultAt m_readTold m_read x1).2.2.2.2.2.2.1 m_readMany (F_X7_isGone m_bytes m_text m_position m_faultAt m_readTold m_read x1).2.2.2.2.2.2.2.1 (F_X7_isGone m_bytes m_text m_position m_faultAt m_readTold m_read x1).2.2.2.2.2.2.2.2 m_fit m_shown m_image m_isKept m_row m_best m_againAt m_againStep m_orderMany m_orderLeast) := by
  obtain ⟨R, hF⟩ : ∃ R, R = F_X7_isGone m_bytes m_text m_position m_faultAt m_readTold m_read x1 := ⟨_, rfl⟩
  rw [← hF]
  refine MC.of (cc := cX7_isGone) (maxL := 3) (ret := (some .boolean)) RX7 rfl (by decide +kernel) rfl (Nat.le_of_ble_eq_true rfl) ?_
  intro p e s m args below meth c A Q KX RT hh ls hl
  have z0 : (0 : Int32).toInt = 0 := rfl
  have z1 : (1 : Int32).toInt = 1 := rfl
  have zm : (-1 : Int32).toInt = -1 := rfl
  have hx := KX.1
  have hb := KX.2.1
  have hl : lv_has ls 3 [(0, .ref o), (1, .int x1)] := hl
  unfold F_X7_isGone at hF
  have e1 := ti_addc x1 1 1 rfl (by omega) (by omega)
  have e2 := ti_addc x1 2 2 rfl (by omega) (by omega)
  have e3 := ti_addc x1 3 3 rfl (by omega) (by omega)
  have e4 := ti_addc x1 4 4 rfl (by omega) (by omega)
  have e5 := ti_addc x1 5 5 rfl (by omega) (by omega)
  refine lv_aload_n hx hb dX7_isGone_0 rfl (lv_at hl 0 rfl) ?_
  refine lv_iload_n hx hb dX7_isGone_1 rfl (lv_at hl 1 rfl) ?_
  refine lv_iconst (v := 1) hx hb dX7_isGone_2 (by decide) ?_
  refine lv_iadd hx hb dX7_isGone_3 ?_
  refine lv_iconst (v := 0) hx hb dX7_isGone_4 (by decide) ?_
  refine lv_bipush (v := 7) hx hb dX7_isGone_5 (by decide) ?_
  refine g_callV (As := [.int (x1 + 1), .int 0, .int 7]) (rest := []) KX rfl ⟨Nat.le_of_ble_eq_true rfl, Nat.le_of_ble_eq_true rfl⟩ hh hl (c_X7_isNumber l D cI cZ cC cH o a_clock a_note a_text a_read a_fit a_shown a_image a_isKept a_row a_best m_told m_isRead1 m_clock m_note m_noted m_bytes m_text m_position m_tokenAt m_token m_digits m_number m_faultAt m_readMany m_readTold m_read m_fit m_shown m_image m_isKept m_row m_best m_againAt m_againStep m_orderMany m_orderLeast (x1 + 1) 0 7 (by first | assumption | omega | decide) (by first | assumption | omega | decide) (by first | assumption | omega | decide)) JN.all 3 gX7_isGone_X7_isNumber rfl (by decide +kernel) ⟨Nat.le_of_ble_eq_true rfl, Nat.le_of_ble_eq_true rfl⟩ 0 7 rfl rfl rfl rfl rfl (Nat.le_of_ble_eq_true rfl) dX7_isGone_7 (fun H locs hh => ?_)
  refine W.eq (g2 := F0 m 10 ls [.int ((F_X7_isNumber m_bytes m_text m_position m_faultAt m_read (x1 + 1) 0 7).1)]) rfl ?_
  generalize q_7 : F_X7_isNumber m_bytes m_text m_position m_faultAt m_read (x1 + 1) 0 7 = r7_1 at hh hF ⊢
  have hz_7 : r7_1.1 = 0 ∨ r7_1.1 = 1 := by rw [← q_7]; exact z_X7_isNumber _ _ _ _ _ _ _ _
  have hpos_7 : PosOk m_bytes r7_1.2.1 := by rw [← q_7]; exact ok_X7_isNumber hpos
  unfold F_X7_isGone_c7 at hF
  refine lv_istore_n (lv' := [(2, .int r7_1.1), (0, .ref o), (1, .int x1)]) hx hb dX7_isGone_10 rfl hl (Nat.le_of_ble_eq_true rfl) rfl (fun ls hl => ?_)
  refine lv_aload_n hx hb dX7_isGone_11 rfl (lv_at hl 1 rfl) ?_
  refine lv_iload_n hx hb dX7_isGone_12 rfl (lv_at hl 0 rfl) ?_
  refine lv_if_eq (tgt := 36) hx hb dX7_isGone_13 (by decide) (fun c_13 => ?_) (fun c_13 => ?_)
  · replace hF := hF.trans (if_pos c_13)
    have i_13 : r7_1.1.toInt = 0 := congrArg Int32.toInt c_13
    refine lv_aload_n hx hb dX7_isGone_36 rfl (lv_at hl 1 rfl) ?_
    refine g_get KX hh in_X7_isGone_X7 0 rfl rfl 14 (by decide) rfl (List.mem_of_getElem? (i := 1) rfl) dX7_isGone_37 ?_
    refine g_put KX hh in_X7_isGone_X7 tyX7 tyX7_ok nmX7 0 rfl rfl 14 (by decide) rfl rfl rfl (Nat.le_of_ble_eq_true rfl) (List.mem_of_getElem? (i := 1) rfl) (w' := (WM cI cZ cC cH o a_clock a_note a_text a_read a_fit a_shown a_image a_isKept a_row a_best m_told m_isRead1 m_clock m_note m_noted m_bytes m_text r7_1.2.1 r7_1.2.2.1 r7_1.2.2.2.1 r7_1.2.2.2.2.1 r7_1.2.2.2.2.2.1 r7_1.2.2.2.2.2.2.1 m_readMany m_readTold r7_1.2.2.2.2.2.2.2 m_fit m_shown m_image m_isKept m_row m_best m_againAt m_againStep m_orderMany m_orderLeast)) rfl rfl dX7_isGone_40 (fun H locs hh => ?_)
    refine lv_iload_n hx hb dX7_isGone_43 rfl (lv_at hl 0 rfl) ?_
    exact RT _ _ _ _ _ _ hh (by rw [hF]) (Or.inl ⟨_, rfl, by rw [hF], dX7_isGone_44, Or.inr (Or.inl ⟨rfl, (by first | assumption | omega | decide)⟩)⟩)
  · replace hF := hF.trans (if_neg c_13)
    have i_13 : ¬ r7_1.1.toInt = 0 := ti_ne c_13
    refine lv_aload_n hx hb dX7_isGone_16 rfl (lv_at hl 1 rfl) ?_
    refine g_get KX hh in_X7_isGone_X7 0 rfl rfl 14 (by decide) rfl (List.mem_of_getElem? (i := 1) rfl) dX7_isGone_17 ?_
    refine lv_iconst (v := 1) hx hb dX7_isGone_20 (by decide) ?_
    refine lv_aload_n hx hb dX7_isGone_21 rfl (lv_at hl 1 rfl) ?_
    refine g_get KX hh in_X7_isGone_X7 0 rfl rfl 15 (by decide) rfl (List.mem_of_getElem? (i := 2) rfl) dX7_isGone_22 ?_
    refine lv_iload_n hx hb dX7_isGone_25 rfl (lv_at hl 2 rfl) ?_
    refine lv_iconst (v := 1) hx hb dX7_isGone_26 (by decide) ?_
    refine lv_iadd hx hb dX7_isGone_27 ?_
    refine g_iald KX hh 4 0 rfl rfl (vp_in_iff.mpr (by omega)) dX7_isGone_28 ?_
    refine lv_ishl hx hb dX7_isGone_29 ?_
    refine lv_iconst (v := (-1)) hx hb dX7_isGone_30 (by decide) ?_
    refine lv_ixor hx hb dX7_isGone_31 ?_
    refine lv_iand hx hb dX7_isGone_32 ?_
    refine lv_goto (tgt := 40) hx hb dX7_isGone_33 (by decide) ?_
    refine g_put KX hh in_X7_isGone_X7 tyX7 tyX7_ok nmX7 0 rfl rfl 14 (by decide) rfl rfl rfl (Nat.le_of_ble_eq_true rfl) (List.mem_of_getElem? (i := 1) rfl) (w' := (WM cI cZ cC cH o a_clock a_note a_text a_read a_fit a_shown a_image a_isKept a_row a_best m_told m_isRead1 m_clock m_note m_noted m_bytes m_text r7_1.2.1 r7_1.2.2.1 r7_1.2.2.2.1 r7_1.2.2.2.2.1 r7_1.2.2.2.2.2.1 r7_1.2.2.2.2.2.2.1 m_readMany (m_readTold &&& ((1 <<< ((r7_1.2.2.2.2.2.2.2 (x1 + 1).toNatClampNeg) &&& 31)) ^^^ (-1))) r7_1.2.2.2.2.2.2.2 m_fit m_shown m_image m_isKept m_row m_best m_againAt m_againStep m_orderMany m_orderLeast)) rfl rfl dX7_isGone_40 (fun H locs hh => ?_)
    refine lv_iload_n hx hb dX7_isGone_43 rfl (lv_at hl 0 rfl) ?_
    exact RT _ _ _ _ _ _ hh (by rw [hF]) (Or.inl ⟨_, rfl, by rw [hF], dX7_isGone_44, Or.inr (Or.inl ⟨rfl, (by first | assumption | omega | decide)⟩)⟩)
theorem zb_F_X7_isGone_c7 {m_readTold : Int32} {x1 : Int32} {r7_1 : Int32 × Int32 × Int32 × Int64 × Int32 × Int32 × Int32 × (Nat → Int32)} (hz0 : r7_1.1 = 0 ∨ r7_1.1 = 1) : (F_X7_isGone_c7 m_readTold x1 r7_1).1 = 0 ∨ (F_X7_isGone_c7 m_readTold x1 r7_1).1 = 1 := by
  unfold F_X7_isGone_c7
  repeat' split
  all_goals first | with_reducible assumption | with_reducible exact z_X7_isNumber _ _ _ _ _ _ _ _ | ((try dsimp only); first | with_reducible exact Or.inl rfl | with_reducible exact Or.inr rfl | with_reducible assumption)
theorem z_X7_isGone (m_bytes : Int32) (m_text : Nat → Int32) (m_position : Int32) (m_faultAt : Int32) (m_readTold : Int32) (m_read : Nat → Int32) (x1 : Int32) : (F_X7_isGone m_bytes m_text m_position m_faultAt m_readTold m_read x1).1 = 0 ∨ (F_X7_isGone m_bytes m_text m_position m_faultAt m_readTold m_read x1).1 = 1 := by
  unfold F_X7_isGone
  repeat' split
  all_goals first | with_reducible assumption | with_reducible exact z_X7_isNumber _ _ _ _ _ _ _ _ | with_reducible exact zb_F_X7_isGone_c7 (by with_reducible assumption) | with_reducible exact zb_F_X7_isGone_c7 (Or.inl rfl) | with_reducible exact zb_F_X7_isGone_c7 (Or.inr rfl) | with_reducible exact zb_F_X7_isGone_c7 (z_X7_isNumber _ _ _ _ _ _ _ _) | ((try dsimp only); first | with_reducible exact Or.inl rfl | with_reducible exact Or.inr rfl | with_reducible assumption)
theorem okb_F_X7_isGoing_81 {m_readTold : Int32} {x1 : Int32} {y0_2 : Int32} {w_m_position_3 : Int32} {w_m_tokenAt_4 : Int32} {w_m_token_5 : Int64} {w_m_digits_6 : Int32} {w_m_number_7 : Int32} {w_m_faultAt_8 : Int32} {w_m_read_9 : Nat → Int32} {b_ : Int32} (hq0 : PosOk b_ w_m_position_3) : PosOk b_ (F_X7_isGoing_81 m_readTold x1 y0_2 w_m_position_3 w_m_tokenAt_4 w_m_token_5 w_m_digits_6 w_m_number_7 w_m_faultAt_8 w_m_read_9).2.1 := by
  unfold F_X7_isGoing_81
  repeat' split
  all_goals first | with_reducible assumption | with_reducible exact ok_X7_isNumber (by with_reducible assumption) | ((try dsimp only); with_reducible assumption)
theorem okb_F_X7_isGoing_80 {m_readTold : Int32} {x1 : Int32} {w_m_position_10 : Int32} {w_m_tokenAt_11 : Int32} {w_m_token_12 : Int64} {w_m_digits_13 : Int32} {w_m_number_14 : Int32} {w_m_faultAt_15 : Int32} {w_m_read_16 : Nat → Int32} {b_ : Int32} (hq0 : PosOk b_ w_m_position_10) : PosOk b_ (F_X7_isGoing_80 m_readTold x1 w_m_position_10 w_m_tokenAt_11 w_m_token_12 w_m_digits_13 w_m_number_14 w_m_faultAt_15 w_m_read_16).2.1 := by
  unfold F_X7_isGoing_80
  repeat' split
  all_goals first | with_reducible assumption | with_reducible exact ok_X7_isNumber (by with_reducible assumption) | with_reducible exact okb_F_X7_isGoing_81 (by first | with_reducible assumption | with_reducible exact ok_X7_isNumber (by with_reducible assumption)) | ((try dsimp only); with_reducible assumption)
theorem okb_F_X7_isGoing_c70 {m_readTold : Int32} {x1 : Int32} {r70_20 : Int32 × Int32 × Int32 × Int64 × Int32 × Int32 × Int32 × (Nat → Int32)} {b_ : Int32} (hq0 : PosOk b_ r70_20.2.1) : PosOk b_ (F_X7_isGoing_c70 m_readTold x1 r70_20).2.1 := by
  unfold F_X7_isGoing_c70
  repeat' split
  all_goals first | with_reducible assumption | with_reducible exact ok_X7_isNumber (by with_reducible assumption) | with_reducible exact okb_F_X7_isGoing_81 (by first | with_reducible assumption | with_reducible exact ok_X7_isNumber (by with_reducible assumption)) | with_reducible exact okb_F_X7_isGoing_80 (by first | with_reducible assumption | with_reducible exact ok_X7_isNumber (by with_reducible assumption)) | ((try dsimp only); with_reducible assumption)
theorem okb_F_X7_isGoing_c49 {m_bytes : Int32} {m_text : Nat → Int32} {m_readTold : Int32} {x1 : Int32} {r49_19 : Int32 × Int32 × Int32 × Int64 × Int32 × Int32 × Int32 × (Nat → Int32)} (hq0 : PosOk m_bytes r49_19.2.1) : PosOk m_bytes (F_X7_isGoing_c49 m_bytes m_text m_readTold x1 r49_19).2.1 := by
  unfold F_X7_isGoing_c49
  repeat' split
  all_goals first | with_reducible assumption | with_reducible exact ok_X7_isNumber (by with_reducible assumption) | with_reducible exact okb_F_X7_isGoing_81 (by first | with_reducible assumption | with_reducible exact ok_X7_isNumber (by with_reducible assumption)) | with_reducible exact okb_F_X7_isGoing_80 (by first | with_reducible assumption | with_reducible exact ok_X7_isNumber (by with_reducible assumption)) | with_reducible exact okb_F_X7_isGoing_c70 (by first | with_reducible assumption | with_reducible exact ok_X7_isNumber (by with_reducible assumption)) | ((try dsimp only); with_reducible assumption)
theorem okb_F_X7_isGoing_c35 {m_bytes : Int32} {m_text : Nat → Int32} {m_readTold : Int32} {x1 : Int32} {r35_18 : Int32 × Int32 × Int32 × Int64 × Int32 × Int32 × Int32 × (Nat → Int32)} (hq0 : PosOk m_bytes r35_18.2.1) : PosOk m_bytes (F_X7_isGoing_c35 m_bytes m_text m_readTold x1 r35_18).2.1 := by
  unfold F_X7_isGoing_c35
  repeat' split
  all_goals first | with_reducible assumption | with_reducible exact ok_X7_isNumber (by with_reducible assumption) | with_reducible exact okb_F_X7_isGoing_81 (by first | with_reducible assumption | with_reducible exact ok_X7_isNumber (by with_reducible assumption)) | with_reducible exact okb_F_X7_isGoing_80 (by first | with_reducible assumption | with_reducible exact ok_X7_isNumber (by with_reducible assumption)) | with_reducible exact okb_F_X7_isGoing_c70 (by first | with_reducible assumption | with_reducible exact ok_X7_isNumber (by with_reducible assumption)) | with_reducible exact okb_F_X7_isGoing_c49 (by first | with_reducible assumption | with_reducible exact ok_X7_isNumber (by with_reducible assumption)) | ((try dsimp only); with_reducible assumption)
theorem okb_F_X7_isGoing_c21 {m_bytes : Int32} {m_text : Nat → Int32} {m_readTold : Int32} {x1 : Int32} {r21_17 : Int32 × Int32 × Int32 × Int64 × Int32 × Int32 × Int32 × (Nat → Int32)} (hq0 : PosOk m_bytes r21_17.2.1) : PosOk m_bytes (F_X7_isGoing_c21 m_bytes m_text m_readTold x1 r21_17).2.1 := by
  unfold F_X7_isGoing_c21
  repeat' split
  all_goals first | with_reducible assumption | with_reducible exact ok_X7_isNumber (by with_reducible assumption) | with_reducible exact okb_F_X7_isGoing_81 (by first | with_reducible assumption | with_reducible exact ok_X7_isNumber (by with_reducible assumption)) | with_reducible exact okb_F_X7_isGoing_80 (by first | with_reducible assumption | with_reducible exact ok_X7_isNumber (by with_reducible assumption)) | with_reducible exact okb_F_X7_isGoing_c70 (by first | with_reducible assumption | with_reducible exact ok_X7_isNumber (by with_reducible assumption)) | with_reducible exact okb_F_X7_isGoing_c49 (by first | with_reducible assumption | with_reducible exact ok_X7_isNumber (by with_reducible assumption)) | with_reducible exact okb_F_X7_isGoing_c35 (by first | with_reducible assumption | with_reducible exact ok_X7_isNumber (by with_reducible assumption)) | ((try dsimp only); with_reducible assumption)
theorem okb_F_X7_isGoing_c7 {m_bytes : Int32} {m_text : Nat → Int32} {m_readTold : Int32} {x1 : Int32} {r7_1 : Int32 × Int32 × Int32 × Int64 × Int32 × Int32 × Int32 × (Nat → Int32)} (hq0 : PosOk m_bytes r7_1.2.1) : PosOk m_bytes (F_X7_isGoing_c7 m_bytes m_text m_readTold x1 r7_1).2.1 := by
  unfold F_X7_isGoing_c7
  repeat' split
  all_goals first | with_reducible assumption | with_reducible exact ok_X7_isNumber (by with_reducible assumption) | with_reducible exact okb_F_X7_isGoing_81 (by first | with_reducible assumption | with_reducible exact ok_X7_isNumber (by with_reducible assumption)) | with_reducible exact okb_F_X7_isGoing_80 (by first | with_reducible assumption | with_reducible exact ok_X7_isNumber (by with_reducible assumption)) | with_reducible exact okb_F_X7_isGoing_c70 (by first | with_reducible assumption | with_reducible exact ok_X7_isNumber (by with_reducible assumption)) | with_reducible exact okb_F_X7_isGoing_c49 (by first | with_reducible assumption | with_reducible exact ok_X7_isNumber (by with_reducible assumption)) | with_reducible exact okb_F_X7_isGoing_c35 (by first | with_reducible assumption | with_reducible exact ok_X7_isNumber (by with_reducible assumption)) | with_reducible exact okb_F_X7_isGoing_c21 (by first | with_reducible assumption | with_reducible exact ok_X7_isNumber (by with_reducible assumption)) | ((try dsimp only); with_reducible assumption)
theorem ok_X7_isGoing {m_bytes : Int32} {m_text : Nat → Int32} {m_position : Int32} {m_faultAt : Int32} {m_readTold : Int32} {m_read : Nat → Int32} {x1 : Int32} (hq0 : PosOk m_bytes m_position) : PosOk m_bytes (F_X7_isGoing m_bytes m_text m_position m_faultAt m_readTold m_read x1).2.1 := by
  unfold F_X7_isGoing
  repeat' split
  all_goals first | with_reducible assumption | with_reducible exact ok_X7_isNumber (by with_reducible assumption) | with_reducible exact okb_F_X7_isGoing_81 (by first | with_reducible assumption | with_reducible exact ok_X7_isNumber (by with_reducible assumption)) | with_reducible exact okb_F_X7_isGoing_80 (by first | with_reducible assumption | with_reducible exact ok_X7_isNumber (by with_reducible assumption)) | with_reducible exact okb_F_X7_isGoing_c70 (by first | with_reducible assumption | with_reducible exact ok_X7_isNumber (by with_reducible assumption)) | with_reducible exact okb_F_X7_isGoing_c49 (by first | with_reducible assumption | with_reducible exact ok_X7_isNumber (by with_reducible assumption)) | with_reducible exact okb_F_X7_isGoing_c35 (by first | with_reducible assumption | with_reducible exact ok_X7_isNumber (by with_reducible assumption)) | with_reducible exact okb_F_X7_isGoing_c21 (by first | with_reducible assumption | with_reducible exact ok_X7_isNumber (by with_reducible assumption)) | with_reducible exact okb_F_X7_isGoing_c7 (by first | with_reducible assumption | with_reducible exact ok_X7_isNumber (by with_reducible assumption)) | ((try dsimp only); with_reducible assumption)
theorem okb_F_X7_isStopped_32 {m_readTold : Int32} {x1 : Int32} {y0_2 : Int32} {w_m_position_3 : Int32} {w_m_tokenAt_4 : Int32} {w_m_token_5 : Int64} {w_m_digits_6 : Int32} {w_m_number_7 : Int32} {w_m_faultAt_8 : Int32} {w_m_read_9 : Nat → Int32} {b_ : Int32} (hq0 : PosOk b_ w_m_position_3) : PosOk b_ (F_X7_isStopped_32 m_readTold x1 y0_2 w_m_position_3 w_m_tokenAt_4 w_m_token_5 w_m_digits_6 w_m_number_7 w_m_faultAt_8 w_m_read_9).2.1 := by
  unfold F_X7_isStopped_32
  repeat' split
  all_goals first | with_reducible assumption | with_reducible exact ok_X7_isNumber (by with_reducible assumption) | ((try dsimp only); with_reducible assumption)
theorem okb_F_X7_isStopped_31 {m_readTold : Int32} {x1 : Int32} {w_m_position_10 : Int32} {w_m_tokenAt_11 : Int32} {w_m_token_12 : Int64} {w_m_digits_13 : Int32} {w_m_number_14 : Int32} {w_m_faultAt_15 : Int32} {w_m_read_16 : Nat → Int32} {b_ : Int32} (hq0 : PosOk b_ w_m_position_10) : PosOk b_ (F_X7_isStopped_31 m_readTold x1 w_m_position_10 w_m_tokenAt_11 w_m_token_12 w_m_digits_13 w_m_number_14 w_m_faultAt_15 w_m_read_16).2.1 := by
  unfold F_X7_isStopped_31
  repeat' split
  all_goals first | with_reducible assumption | with_reducible exact ok_X7_isNumber (by with_reducible assumption) | with_reducible exact okb_F_X7_isStopped_32 (by first | with_reducible assumption | with_reducible exact ok_X7_isNumber (by with_reducible assumption)) | ((try dsimp only); with_reducible assumption)
theorem okb_F_X7_isStopped_c21 {m_readTold : Int32} {x1 : Int32} {r21_17 : Int32 × Int32 × Int32 × Int64 × Int32 × Int32 × Int32 × (Nat → Int32)} {b_ : Int32} (hq0 : PosOk b_ r21_17.2.1) : PosOk b_ (F_X7_isStopped_c21 m_readTold x1 r21_17).2.1 := by
  unfold F_X7_isStopped_c21
  repeat' split
  all_goals first | with_reducible assumption | with_reducible exact ok_X7_isNumber (by with_reducible assumption) | with_reducible exact okb_F_X7_isStopped_32 (by first | with_reducible assumption | with_reducible exact ok_X7_isNumber (by with_reducible assumption)) | with_reducible exact okb_F_X7_isStopped_31 (by first | with_reducible assumption | with_reducible exact ok_X7_isNumber (by with_reducible assumption)) | ((try dsimp only); with_reducible assumption)
theorem okb_F_X7_isStopped_c7 {m_bytes : Int32} {m_text : Nat → Int32} {m_readTold : Int32} {x1 : Int32} {r7_1 : Int32 × Int32 × Int32 × Int64 × Int32 × Int32 × Int32 × (Nat → Int32)} (hq0 : PosOk m_bytes r7_1.2.1) : PosOk m_bytes (F_X7_isStopped_c7 m_bytes m_text m_readTold x1 r7_1).2.1 := by
  unfold F_X7_isStopped_c7
  repeat' split
  all_goals first | with_reducible assumption | with_reducible exact ok_X7_isNumber (by with_reducible assumption) | with_reducible exact okb_F_X7_isStopped_32 (by first | with_reducible assumption | with_reducible exact ok_X7_isNumber (by with_reducible assumption)) | with_reducible exact okb_F_X7_isStopped_31 (by first | with_reducible assumption | with_reducible exact ok_X7_isNumber (by with_reducible assumption)) | with_reducible exact okb_F_X7_isStopped_c21 (by first | with_reducible assumption | with_reducible exact ok_X7_isNumber (by with_reducible assumption)) | ((try dsimp only); with_reducible assumption)
theorem ok_X7_isStopped {m_bytes : Int32} {m_text : Nat → Int32} {m_position : Int32} {m_faultAt : Int32} {m_readTold : Int32} {m_read : Nat → Int32} {x1 : Int32} (hq0 : PosOk m_bytes m_position) : PosOk m_bytes (F_X7_isStopped m_bytes m_text m_position m_faultAt m_readTold m_read x1).2.1 := by
  unfold F_X7_isStopped
  repeat' split
  all_goals first | with_reducible assumption | with_reducible exact ok_X7_isNumber (by with_reducible assumption) | with_reducible exact okb_F_X7_isStopped_32 (by first | with_reducible assumption | with_reducible exact ok_X7_isNumber (by with_reducible assumption)) | with_reducible exact okb_F_X7_isStopped_31 (by first | with_reducible assumption | with_reducible exact ok_X7_isNumber (by with_reducible assumption)) | with_reducible exact okb_F_X7_isStopped_c21 (by first | with_reducible assumption | with_reducible exact ok_X7_isNumber (by with_reducible assumption)) | with_reducible exact okb_F_X7_isStopped_c7 (by first | with_reducible assumption | with_reducible exact ok_X7_isNumber (by with_reducible assumption)) | ((try dsimp only); with_reducible assumption)
theorem okb_F_X7_isNow_c48 {r7_1 : Int32 × Int32 × Int32 × Int64 × Int32 × Int32 × Int32 × (Nat → Int32)} {r48_2 : Int32 × Int32} {b_ : Int32} (hq0 : PosOk b_ r7_1.2.1) : PosOk b_ (F_X7_isNow_c48 r7_1 r48_2).2.1 := by
  unfold F_X7_isNow_c48
  repeat' split
  all_goals first | with_reducible assumption | with_reducible exact ok_X7_isNumber (by with_reducible assumption) | ((try dsimp only); with_reducible assumption)
theorem okb_F_X7_isNow_c41  {r41_3 : Int32 × Int32 × Int32 × Int64 × Int32 × Int32 × Int32 × (Nat → Int32)} {b_ : Int32} (hq0 : PosOk b_ r41_3.2.1) : PosOk b_ (F_X7_isNow_c41 r41_3).2.1 := by
  unfold F_X7_isNow_c41
  repeat' split
  all_goals first | with_reducible assumption | with_reducible exact ok_X7_isNumber (by with_reducible assumption) | with_reducible exact okb_F_X7_isNow_c48 (by first | with_reducible assumption | with_reducible exact ok_X7_isNumber (by with_reducible assumption)) | ((try dsimp only); with_reducible assumption)
theorem okb_F_X7_isNow_c7 {m_bytes : Int32} {m_text : Nat → Int32} {m_readTold : Int32} {x1 : Int32} {r7_1 : Int32 × Int32 × Int32 × Int64 × Int32 × Int32 × Int32 × (Nat → Int32)} (hq0 : PosOk m_bytes r7_1.2.1) : PosOk m_bytes (F_X7_isNow_c7 m_bytes m_text m_readTold x1 r7_1).2.1 := by
  unfold F_X7_isNow_c7
  repeat' split
  all_goals first | with_reducible assumption | with_reducible exact ok_X7_isNumber (by with_reducible assumption) | with_reducible exact okb_F_X7_isNow_c48 (by first | with_reducible assumption | with_reducible exact ok_X7_isNumber (by with_reducible assumption)) | with_reducible exact okb_F_X7_isNow_c41 (by first | with_reducible assumption | with_reducible exact ok_X7_isNumber (by with_reducible assumption)) | ((try dsimp only); with_reducible assumption)
theorem ok_X7_isNow {m_bytes : Int32} {m_text : Nat → Int32} {m_position : Int32} {m_faultAt : Int32} {m_readTold : Int32} {m_read : Nat → Int32} {x1 : Int32} (hq0 : PosOk m_bytes m_position) : PosOk m_bytes (F_X7_isNow m_bytes m_text m_position m_faultAt m_readTold m_read x1).2.1 := by
  unfold F_X7_isNow
  repeat' split
  all_goals first | with_reducible assumption | with_reducible exact ok_X7_isNumber (by with_reducible assumption) | with_reducible exact okb_F_X7_isNow_c48 (by first | with_reducible assumption | with_reducible exact ok_X7_isNumber (by with_reducible assumption)) | with_reducible exact okb_F_X7_isNow_c41 (by first | with_reducible assumption | with_reducible exact ok_X7_isNumber (by with_reducible assumption)) | with_reducible exact okb_F_X7_isNow_c7 (by first | with_reducible assumption | with_reducible exact ok_X7_isNumber (by with_reducible assumption)) | ((try dsimp only); with_reducible assumption)
theorem okb_F_X7_isGone_c7 {m_readTold : Int32} {x1 : Int32} {r7_1 : Int32 × Int32 × Int32 × Int64 × Int32 × Int32 × Int32 × (Nat → Int32)} {b_ : Int32} (hq0 : PosOk b_ r7_1.2.1) : PosOk b_ (F_X7_isGone_c7 m_readTold x1 r7_1).2.1 := by
  unfold F_X7_isGone_c7
  repeat' split
  all_goals first | with_reducible assumption | with_reducible exact ok_X7_isNumber (by with_reducible assumption) | ((try dsimp only); with_reducible assumption)
theorem ok_X7_isGone {m_bytes : Int32} {m_text : Nat → Int32} {m_position : Int32} {m_faultAt : Int32} {m_readTold : Int32} {m_read : Nat → Int32} {x1 : Int32} (hq0 : PosOk m_bytes m_position) : PosOk m_bytes (F_X7_isGone m_bytes m_text m_position m_faultAt m_readTold m_read x1).2.1 := by
  unfold F_X7_isGone
  repeat' split
  all_goals first | with_reducible assumption | with_reducible exact ok_X7_isNumber (by with_reducible assumption) | with_reducible exact okb_F_X7_isGone_c7 (by first | with_reducible assumption | with_reducible exact ok_X7_isNumber (by with_reducible assumption)) | ((try dsimp only); with_reducible assumption)
end
